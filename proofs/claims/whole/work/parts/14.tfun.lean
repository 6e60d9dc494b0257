abbrev tp_W (a b kA : Nat) (cI : ClassId) (tby : Nat → Int32) (tlen ttok tsta tbeh tnum ttak : Int32) : va_W := [(a, .inr (8, [.ref kA, .ref b, .int tlen, .int ttok, .int tsta, .int tbeh, .int tnum, .int ttak])), (b, .inl (cI, 120, .inl tby))]
abbrev tm_W (a b : Nat) (hm : Nat → Nat) (kA : Nat) (ka : Nat → Nat) (cI cK : ClassId) (tby : Nat → Int32) (tlen ttok tsta tbeh tnum ttak : Int32) (u : MtS) : va_W := [(a, .inr (8, [.ref kA, .ref b, .int tlen, .int ttok, .int tsta, .int tbeh, .int tnum, .int ttak])), (b, .inl (cI, 120, .inl tby)), (hm 0, .inr (4, [.ref kA, .ref (hm 1), .ref (hm 2), .ref (hm 3), .ref (hm 4), .long u.2, .int (u.1 0 0), .int (u.1 0 1), .int (u.1 0 2), .int (u.1 0 3), .int (u.1 0 4), .ref (hm 5), .ref (hm 6), .ref (hm 7), .ref (hm 8), .ref (hm 9)])), (hm 1, .inl (cI, 40, .inl (u.1 1))), (hm 2, .inl (cI, 40, .inl (u.1 2))), (hm 3, .inl (cI, 40, .inl (u.1 3))), (hm 4, .inl (cI, 40, .inl (u.1 4))), (hm 5, .inl (cI, 10, .inl (u.1 5))), (hm 6, .inl (cI, 10, .inl (u.1 6))), (hm 7, .inl (cI, 10, .inl (u.1 7))), (hm 8, .inl (cI, 10, .inl (u.1 8))), (hm 9, .inl (cI, 10, .inl (u.1 9))), (kA, .inl (cK, 6, .inr (.inr (.inr (.inr (fun k => some (ka k))))))), (ka 0, .inr (3, [])), (ka 1, .inr (6, [])), (ka 2, .inr (0, [])), (ka 3, .inr (2, [])), (ka 4, .inr (1, [])), (ka 5, .inr (5, []))]
theorem tm_kat (a b : Nat) (hm : Nat → Nat) (kA : Nat) (ka : Nat → Nat) (cI cK : ClassId) (tby : Nat → Int32) (tlen ttok tsta tbeh tnum ttak : Int32) (u : MtS) : ∀ j, j < 6 → (tm_W a b hm kA ka cI cK tby tlen ttok tsta tbeh tnum ttak u)[13 + j]? = some (ka j, .inr (kd_ci j, []))
  | 0, _ => rfl
  | 1, _ => rfl
  | 2, _ => rfl
  | 3, _ => rfl
  | 4, _ => rfl
  | 5, _ => rfl
def sh_up (sh : Nat → ShS) (k : Nat) (v : ShS) : Nat → ShS := fun j => if j = k then v else sh j
def sx_W (g m0 m1 m2 ka sa sn : Nat → Nat) (cI cJ cK cS : ClassId) (mu tr ke : MtS) (kp : Int32) (tby : Nat → Int32) (tlen ttok tsta tbeh tnum ttak : Int32) (sh : Nat → ShS) (fi : Nat → Int32) : va_W := [(g 0, .inr (9, [.ref (m0 0), .ref (m1 0), .ref (m2 0), .int kp, .ref (g 1), .ref (g 3), .ref (g 4)])), (m0 0, .inr (4, [.ref (g 5), .ref (m0 1), .ref (m0 2), .ref (m0 3), .ref (m0 4), .long mu.2, .int (mu.1 0 0), .int (mu.1 0 1), .int (mu.1 0 2), .int (mu.1 0 3), .int (mu.1 0 4), .ref (m0 5), .ref (m0 6), .ref (m0 7), .ref (m0 8), .ref (m0 9)])), (m0 1, .inl (cI, 40, .inl (mu.1 1))), (m0 2, .inl (cI, 40, .inl (mu.1 2))), (m0 3, .inl (cI, 40, .inl (mu.1 3))), (m0 4, .inl (cI, 40, .inl (mu.1 4))), (m0 5, .inl (cI, 10, .inl (mu.1 5))), (m0 6, .inl (cI, 10, .inl (mu.1 6))), (m0 7, .inl (cI, 10, .inl (mu.1 7))), (m0 8, .inl (cI, 10, .inl (mu.1 8))), (m0 9, .inl (cI, 10, .inl (mu.1 9))), (m1 0, .inr (4, [.ref (g 5), .ref (m1 1), .ref (m1 2), .ref (m1 3), .ref (m1 4), .long tr.2, .int (tr.1 0 0), .int (tr.1 0 1), .int (tr.1 0 2), .int (tr.1 0 3), .int (tr.1 0 4), .ref (m1 5), .ref (m1 6), .ref (m1 7), .ref (m1 8), .ref (m1 9)])), (m1 1, .inl (cI, 40, .inl (tr.1 1))), (m1 2, .inl (cI, 40, .inl (tr.1 2))), (m1 3, .inl (cI, 40, .inl (tr.1 3))), (m1 4, .inl (cI, 40, .inl (tr.1 4))), (m1 5, .inl (cI, 10, .inl (tr.1 5))), (m1 6, .inl (cI, 10, .inl (tr.1 6))), (m1 7, .inl (cI, 10, .inl (tr.1 7))), (m1 8, .inl (cI, 10, .inl (tr.1 8))), (m1 9, .inl (cI, 10, .inl (tr.1 9))), (m2 0, .inr (4, [.ref (g 5), .ref (m2 1), .ref (m2 2), .ref (m2 3), .ref (m2 4), .long ke.2, .int (ke.1 0 0), .int (ke.1 0 1), .int (ke.1 0 2), .int (ke.1 0 3), .int (ke.1 0 4), .ref (m2 5), .ref (m2 6), .ref (m2 7), .ref (m2 8), .ref (m2 9)])), (m2 1, .inl (cI, 40, .inl (ke.1 1))), (m2 2, .inl (cI, 40, .inl (ke.1 2))), (m2 3, .inl (cI, 40, .inl (ke.1 3))), (m2 4, .inl (cI, 40, .inl (ke.1 4))), (m2 5, .inl (cI, 10, .inl (ke.1 5))), (m2 6, .inl (cI, 10, .inl (ke.1 6))), (m2 7, .inl (cI, 10, .inl (ke.1 7))), (m2 8, .inl (cI, 10, .inl (ke.1 8))), (m2 9, .inl (cI, 10, .inl (ke.1 9))), ((g 5), .inl (cK, 6, .inr (.inr (.inr (.inr (fun k => some (ka k))))))), (ka 0, .inr (3, [])), (ka 1, .inr (6, [])), (ka 2, .inr (0, [])), (ka 3, .inr (2, [])), (ka 4, .inr (1, [])), (ka 5, .inr (5, [])), (g 1, .inr (8, [.ref (g 5), .ref (g 2), .int tlen, .int ttok, .int tsta, .int tbeh, .int tnum, .int ttak])), (g 2, .inl (cI, 120, .inl tby)), (g 3, .inl (cS, 4, .inr (.inr (.inr (.inr (fun k => some (sa k))))))), (sa 0, .inr (7, [.ref (sn 0), .int (sh 0).2.1, .int (sh 0).2.2])), (sn 0, .inl (cJ, 40, .inr (.inl (sh 0).1))), (sa 1, .inr (7, [.ref (sn 1), .int (sh 1).2.1, .int (sh 1).2.2])), (sn 1, .inl (cJ, 40, .inr (.inl (sh 1).1))), (sa 2, .inr (7, [.ref (sn 2), .int (sh 2).2.1, .int (sh 2).2.2])), (sn 2, .inl (cJ, 40, .inr (.inl (sh 2).1))), (sa 3, .inr (7, [.ref (sn 3), .int (sh 3).2.1, .int (sh 3).2.2])), (sn 3, .inl (cJ, 40, .inr (.inl (sh 3).1))), (g 4, .inl (cI, 7, .inl fi))]
set_option maxRecDepth 100000 in
set_option maxHeartbeats 4000000 in
theorem sx_C_mu {g m0 m1 m2 ka sa sn : Nat → Nat} {cI cJ cK cS : ClassId} {mu tr ke : MtS} {kp : Int32} {tby : Nat → Int32} {tlen ttok tsta tbeh tnum ttak : Int32} {sh : Nat → ShS} {fi : Nat → Int32} : [1, 2, 3, 4, 5, 6, 7, 8, 9, 10, 31, 32, 33, 34, 35, 36, 37].map (fun i => (sx_W g m0 m1 m2 ka sa sn cI cJ cK cS mu tr ke kp tby tlen ttok tsta tbeh tnum ttak sh fi)[i]?) = (mt_W m0 (g 5) ka cI cK mu).map some := by
  simp only [sx_W, List.map_cons, List.map_nil, List.getElem?_cons_succ, List.getElem?_cons_zero]
set_option maxRecDepth 100000 in
set_option maxHeartbeats 4000000 in
theorem sx_w_mu {g m0 m1 m2 ka sa sn : Nat → Nat} {cI cJ cK cS : ClassId} {mu tr ke : MtS} {kp : Int32} {tby : Nat → Int32} {tlen ttok tsta tbeh tnum ttak : Int32} {sh : Nat → ShS} {fi : Nat → Int32} {n_ : MtS} : sf_rp (sx_W g m0 m1 m2 ka sa sn cI cJ cK cS mu tr ke kp tby tlen ttok tsta tbeh tnum ttak sh fi) [1, 2, 3, 4, 5, 6, 7, 8, 9, 10, 31, 32, 33, 34, 35, 36, 37] (mt_W m0 (g 5) ka cI cK n_) = sx_W g m0 m1 m2 ka sa sn cI cJ cK cS n_ tr ke kp tby tlen ttok tsta tbeh tnum ttak sh fi := by
  simp only [sx_W, sf_rp, List.set_cons_succ, List.set_cons_zero]
theorem sx_n_mu : va_nd [1, 2, 3, 4, 5, 6, 7, 8, 9, 10, 31, 32, 33, 34, 35, 36, 37] = true := by decide +kernel
set_option maxRecDepth 100000 in
set_option maxHeartbeats 4000000 in
theorem sx_C_tr {g m0 m1 m2 ka sa sn : Nat → Nat} {cI cJ cK cS : ClassId} {mu tr ke : MtS} {kp : Int32} {tby : Nat → Int32} {tlen ttok tsta tbeh tnum ttak : Int32} {sh : Nat → ShS} {fi : Nat → Int32} : [11, 12, 13, 14, 15, 16, 17, 18, 19, 20, 31, 32, 33, 34, 35, 36, 37].map (fun i => (sx_W g m0 m1 m2 ka sa sn cI cJ cK cS mu tr ke kp tby tlen ttok tsta tbeh tnum ttak sh fi)[i]?) = (mt_W m1 (g 5) ka cI cK tr).map some := by
  simp only [sx_W, List.map_cons, List.map_nil, List.getElem?_cons_succ, List.getElem?_cons_zero]
set_option maxRecDepth 100000 in
set_option maxHeartbeats 4000000 in
theorem sx_w_tr {g m0 m1 m2 ka sa sn : Nat → Nat} {cI cJ cK cS : ClassId} {mu tr ke : MtS} {kp : Int32} {tby : Nat → Int32} {tlen ttok tsta tbeh tnum ttak : Int32} {sh : Nat → ShS} {fi : Nat → Int32} {n_ : MtS} : sf_rp (sx_W g m0 m1 m2 ka sa sn cI cJ cK cS mu tr ke kp tby tlen ttok tsta tbeh tnum ttak sh fi) [11, 12, 13, 14, 15, 16, 17, 18, 19, 20, 31, 32, 33, 34, 35, 36, 37] (mt_W m1 (g 5) ka cI cK n_) = sx_W g m0 m1 m2 ka sa sn cI cJ cK cS mu n_ ke kp tby tlen ttok tsta tbeh tnum ttak sh fi := by
  simp only [sx_W, sf_rp, List.set_cons_succ, List.set_cons_zero]
theorem sx_n_tr : va_nd [11, 12, 13, 14, 15, 16, 17, 18, 19, 20, 31, 32, 33, 34, 35, 36, 37] = true := by decide +kernel
set_option maxRecDepth 100000 in
set_option maxHeartbeats 4000000 in
theorem sx_C_ke {g m0 m1 m2 ka sa sn : Nat → Nat} {cI cJ cK cS : ClassId} {mu tr ke : MtS} {kp : Int32} {tby : Nat → Int32} {tlen ttok tsta tbeh tnum ttak : Int32} {sh : Nat → ShS} {fi : Nat → Int32} : [21, 22, 23, 24, 25, 26, 27, 28, 29, 30, 31, 32, 33, 34, 35, 36, 37].map (fun i => (sx_W g m0 m1 m2 ka sa sn cI cJ cK cS mu tr ke kp tby tlen ttok tsta tbeh tnum ttak sh fi)[i]?) = (mt_W m2 (g 5) ka cI cK ke).map some := by
  simp only [sx_W, List.map_cons, List.map_nil, List.getElem?_cons_succ, List.getElem?_cons_zero]
set_option maxRecDepth 100000 in
set_option maxHeartbeats 4000000 in
theorem sx_w_ke {g m0 m1 m2 ka sa sn : Nat → Nat} {cI cJ cK cS : ClassId} {mu tr ke : MtS} {kp : Int32} {tby : Nat → Int32} {tlen ttok tsta tbeh tnum ttak : Int32} {sh : Nat → ShS} {fi : Nat → Int32} {n_ : MtS} : sf_rp (sx_W g m0 m1 m2 ka sa sn cI cJ cK cS mu tr ke kp tby tlen ttok tsta tbeh tnum ttak sh fi) [21, 22, 23, 24, 25, 26, 27, 28, 29, 30, 31, 32, 33, 34, 35, 36, 37] (mt_W m2 (g 5) ka cI cK n_) = sx_W g m0 m1 m2 ka sa sn cI cJ cK cS mu tr n_ kp tby tlen ttok tsta tbeh tnum ttak sh fi := by
  simp only [sx_W, sf_rp, List.set_cons_succ, List.set_cons_zero]
theorem sx_n_ke : va_nd [21, 22, 23, 24, 25, 26, 27, 28, 29, 30, 31, 32, 33, 34, 35, 36, 37] = true := by decide +kernel
set_option maxRecDepth 100000 in
set_option maxHeartbeats 4000000 in
theorem sx_C_tr_mu {g m0 m1 m2 ka sa sn : Nat → Nat} {cI cJ cK cS : ClassId} {mu tr ke : MtS} {kp : Int32} {tby : Nat → Int32} {tlen ttok tsta tbeh tnum ttak : Int32} {sh : Nat → ShS} {fi : Nat → Int32} : [11, 12, 13, 14, 15, 16, 17, 18, 19, 20, 1, 2, 3, 4, 5, 6, 7, 8, 9, 10].map (fun i => (sx_W g m0 m1 m2 ka sa sn cI cJ cK cS mu tr ke kp tby tlen ttok tsta tbeh tnum ttak sh fi)[i]?) = (mm_W m1 m0 (g 5) (g 5) cI tr mu).map some := by
  simp only [sx_W, List.map_cons, List.map_nil, List.getElem?_cons_succ, List.getElem?_cons_zero]
set_option maxRecDepth 100000 in
set_option maxHeartbeats 4000000 in
theorem sx_w_tr_mu {g m0 m1 m2 ka sa sn : Nat → Nat} {cI cJ cK cS : ClassId} {mu tr ke : MtS} {kp : Int32} {tby : Nat → Int32} {tlen ttok tsta tbeh tnum ttak : Int32} {sh : Nat → ShS} {fi : Nat → Int32} {n_ : MtS} : sf_rp (sx_W g m0 m1 m2 ka sa sn cI cJ cK cS mu tr ke kp tby tlen ttok tsta tbeh tnum ttak sh fi) [11, 12, 13, 14, 15, 16, 17, 18, 19, 20, 1, 2, 3, 4, 5, 6, 7, 8, 9, 10] (mm_W m1 m0 (g 5) (g 5) cI n_ mu) = sx_W g m0 m1 m2 ka sa sn cI cJ cK cS mu n_ ke kp tby tlen ttok tsta tbeh tnum ttak sh fi := by
  simp only [sx_W, sf_rp, List.set_cons_succ, List.set_cons_zero]
theorem sx_n_tr_mu : va_nd [11, 12, 13, 14, 15, 16, 17, 18, 19, 20, 1, 2, 3, 4, 5, 6, 7, 8, 9, 10] = true := by decide +kernel
set_option maxRecDepth 100000 in
set_option maxHeartbeats 4000000 in
theorem sx_C_ke_mu {g m0 m1 m2 ka sa sn : Nat → Nat} {cI cJ cK cS : ClassId} {mu tr ke : MtS} {kp : Int32} {tby : Nat → Int32} {tlen ttok tsta tbeh tnum ttak : Int32} {sh : Nat → ShS} {fi : Nat → Int32} : [21, 22, 23, 24, 25, 26, 27, 28, 29, 30, 1, 2, 3, 4, 5, 6, 7, 8, 9, 10].map (fun i => (sx_W g m0 m1 m2 ka sa sn cI cJ cK cS mu tr ke kp tby tlen ttok tsta tbeh tnum ttak sh fi)[i]?) = (mm_W m2 m0 (g 5) (g 5) cI ke mu).map some := by
  simp only [sx_W, List.map_cons, List.map_nil, List.getElem?_cons_succ, List.getElem?_cons_zero]
set_option maxRecDepth 100000 in
set_option maxHeartbeats 4000000 in
theorem sx_w_ke_mu {g m0 m1 m2 ka sa sn : Nat → Nat} {cI cJ cK cS : ClassId} {mu tr ke : MtS} {kp : Int32} {tby : Nat → Int32} {tlen ttok tsta tbeh tnum ttak : Int32} {sh : Nat → ShS} {fi : Nat → Int32} {n_ : MtS} : sf_rp (sx_W g m0 m1 m2 ka sa sn cI cJ cK cS mu tr ke kp tby tlen ttok tsta tbeh tnum ttak sh fi) [21, 22, 23, 24, 25, 26, 27, 28, 29, 30, 1, 2, 3, 4, 5, 6, 7, 8, 9, 10] (mm_W m2 m0 (g 5) (g 5) cI n_ mu) = sx_W g m0 m1 m2 ka sa sn cI cJ cK cS mu tr n_ kp tby tlen ttok tsta tbeh tnum ttak sh fi := by
  simp only [sx_W, sf_rp, List.set_cons_succ, List.set_cons_zero]
theorem sx_n_ke_mu : va_nd [21, 22, 23, 24, 25, 26, 27, 28, 29, 30, 1, 2, 3, 4, 5, 6, 7, 8, 9, 10] = true := by decide +kernel
set_option maxRecDepth 100000 in
set_option maxHeartbeats 4000000 in
theorem sx_C_mu_ke {g m0 m1 m2 ka sa sn : Nat → Nat} {cI cJ cK cS : ClassId} {mu tr ke : MtS} {kp : Int32} {tby : Nat → Int32} {tlen ttok tsta tbeh tnum ttak : Int32} {sh : Nat → ShS} {fi : Nat → Int32} : [1, 2, 3, 4, 5, 6, 7, 8, 9, 10, 21, 22, 23, 24, 25, 26, 27, 28, 29, 30].map (fun i => (sx_W g m0 m1 m2 ka sa sn cI cJ cK cS mu tr ke kp tby tlen ttok tsta tbeh tnum ttak sh fi)[i]?) = (mm_W m0 m2 (g 5) (g 5) cI mu ke).map some := by
  simp only [sx_W, List.map_cons, List.map_nil, List.getElem?_cons_succ, List.getElem?_cons_zero]
set_option maxRecDepth 100000 in
set_option maxHeartbeats 4000000 in
theorem sx_w_mu_ke {g m0 m1 m2 ka sa sn : Nat → Nat} {cI cJ cK cS : ClassId} {mu tr ke : MtS} {kp : Int32} {tby : Nat → Int32} {tlen ttok tsta tbeh tnum ttak : Int32} {sh : Nat → ShS} {fi : Nat → Int32} {n_ : MtS} : sf_rp (sx_W g m0 m1 m2 ka sa sn cI cJ cK cS mu tr ke kp tby tlen ttok tsta tbeh tnum ttak sh fi) [1, 2, 3, 4, 5, 6, 7, 8, 9, 10, 21, 22, 23, 24, 25, 26, 27, 28, 29, 30] (mm_W m0 m2 (g 5) (g 5) cI n_ ke) = sx_W g m0 m1 m2 ka sa sn cI cJ cK cS n_ tr ke kp tby tlen ttok tsta tbeh tnum ttak sh fi := by
  simp only [sx_W, sf_rp, List.set_cons_succ, List.set_cons_zero]
theorem sx_n_mu_ke : va_nd [1, 2, 3, 4, 5, 6, 7, 8, 9, 10, 21, 22, 23, 24, 25, 26, 27, 28, 29, 30] = true := by decide +kernel
set_option maxRecDepth 100000 in
set_option maxHeartbeats 4000000 in
theorem sx_C_mu_tr {g m0 m1 m2 ka sa sn : Nat → Nat} {cI cJ cK cS : ClassId} {mu tr ke : MtS} {kp : Int32} {tby : Nat → Int32} {tlen ttok tsta tbeh tnum ttak : Int32} {sh : Nat → ShS} {fi : Nat → Int32} : [1, 2, 3, 4, 5, 6, 7, 8, 9, 10, 11, 12, 13, 14, 15, 16, 17, 18, 19, 20].map (fun i => (sx_W g m0 m1 m2 ka sa sn cI cJ cK cS mu tr ke kp tby tlen ttok tsta tbeh tnum ttak sh fi)[i]?) = (mm_W m0 m1 (g 5) (g 5) cI mu tr).map some := by
  simp only [sx_W, List.map_cons, List.map_nil, List.getElem?_cons_succ, List.getElem?_cons_zero]
set_option maxRecDepth 100000 in
set_option maxHeartbeats 4000000 in
theorem sx_w_mu_tr {g m0 m1 m2 ka sa sn : Nat → Nat} {cI cJ cK cS : ClassId} {mu tr ke : MtS} {kp : Int32} {tby : Nat → Int32} {tlen ttok tsta tbeh tnum ttak : Int32} {sh : Nat → ShS} {fi : Nat → Int32} {n_ : MtS} : sf_rp (sx_W g m0 m1 m2 ka sa sn cI cJ cK cS mu tr ke kp tby tlen ttok tsta tbeh tnum ttak sh fi) [1, 2, 3, 4, 5, 6, 7, 8, 9, 10, 11, 12, 13, 14, 15, 16, 17, 18, 19, 20] (mm_W m0 m1 (g 5) (g 5) cI n_ tr) = sx_W g m0 m1 m2 ka sa sn cI cJ cK cS n_ tr ke kp tby tlen ttok tsta tbeh tnum ttak sh fi := by
  simp only [sx_W, sf_rp, List.set_cons_succ, List.set_cons_zero]
theorem sx_n_mu_tr : va_nd [1, 2, 3, 4, 5, 6, 7, 8, 9, 10, 11, 12, 13, 14, 15, 16, 17, 18, 19, 20] = true := by decide +kernel
set_option maxRecDepth 100000 in
set_option maxHeartbeats 4000000 in
theorem sx_C_tape {g m0 m1 m2 ka sa sn : Nat → Nat} {cI cJ cK cS : ClassId} {mu tr ke : MtS} {kp : Int32} {tby : Nat → Int32} {tlen ttok tsta tbeh tnum ttak : Int32} {sh : Nat → ShS} {fi : Nat → Int32} : [38, 39].map (fun i => (sx_W g m0 m1 m2 ka sa sn cI cJ cK cS mu tr ke kp tby tlen ttok tsta tbeh tnum ttak sh fi)[i]?) = (tp_W (g 1) (g 2) (g 5) cI tby tlen ttok tsta tbeh tnum ttak).map some := by
  simp only [sx_W, List.map_cons, List.map_nil, List.getElem?_cons_succ, List.getElem?_cons_zero]
set_option maxRecDepth 100000 in
set_option maxHeartbeats 4000000 in
theorem sx_w_tape {g m0 m1 m2 ka sa sn : Nat → Nat} {cI cJ cK cS : ClassId} {mu tr ke : MtS} {kp : Int32} {tby : Nat → Int32} {tlen ttok tsta tbeh tnum ttak : Int32} {sh : Nat → ShS} {fi : Nat → Int32} {n1 : Nat → Int32} {n2 n3 n4 n5 n6 n7 : Int32} : sf_rp (sx_W g m0 m1 m2 ka sa sn cI cJ cK cS mu tr ke kp tby tlen ttok tsta tbeh tnum ttak sh fi) [38, 39] (tp_W (g 1) (g 2) (g 5) cI n1 n2 n3 n4 n5 n6 n7) = sx_W g m0 m1 m2 ka sa sn cI cJ cK cS mu tr ke kp n1 n2 n3 n4 n5 n6 n7 sh fi := by
  simp only [sx_W, sf_rp, List.set_cons_succ, List.set_cons_zero]
theorem sx_n_tape : va_nd [38, 39] = true := by decide +kernel
set_option maxRecDepth 100000 in
set_option maxHeartbeats 4000000 in
theorem sx_C_tapem {g m0 m1 m2 ka sa sn : Nat → Nat} {cI cJ cK cS : ClassId} {mu tr ke : MtS} {kp : Int32} {tby : Nat → Int32} {tlen ttok tsta tbeh tnum ttak : Int32} {sh : Nat → ShS} {fi : Nat → Int32} : [38, 39, 11, 12, 13, 14, 15, 16, 17, 18, 19, 20, 31, 32, 33, 34, 35, 36, 37].map (fun i => (sx_W g m0 m1 m2 ka sa sn cI cJ cK cS mu tr ke kp tby tlen ttok tsta tbeh tnum ttak sh fi)[i]?) = (tm_W (g 1) (g 2) m1 (g 5) ka cI cK tby tlen ttok tsta tbeh tnum ttak tr).map some := by
  simp only [sx_W, List.map_cons, List.map_nil, List.getElem?_cons_succ, List.getElem?_cons_zero]
set_option maxRecDepth 100000 in
set_option maxHeartbeats 4000000 in
theorem sx_w_tapem {g m0 m1 m2 ka sa sn : Nat → Nat} {cI cJ cK cS : ClassId} {mu tr ke : MtS} {kp : Int32} {tby : Nat → Int32} {tlen ttok tsta tbeh tnum ttak : Int32} {sh : Nat → ShS} {fi : Nat → Int32} {n1 : Nat → Int32} {n2 n3 n4 n5 n6 n7 : Int32} {n_ : MtS} : sf_rp (sx_W g m0 m1 m2 ka sa sn cI cJ cK cS mu tr ke kp tby tlen ttok tsta tbeh tnum ttak sh fi) [38, 39, 11, 12, 13, 14, 15, 16, 17, 18, 19, 20, 31, 32, 33, 34, 35, 36, 37] (tm_W (g 1) (g 2) m1 (g 5) ka cI cK n1 n2 n3 n4 n5 n6 n7 n_) = sx_W g m0 m1 m2 ka sa sn cI cJ cK cS mu n_ ke kp n1 n2 n3 n4 n5 n6 n7 sh fi := by
  simp only [sx_W, sf_rp, List.set_cons_succ, List.set_cons_zero]
theorem sx_n_tapem : va_nd [38, 39, 11, 12, 13, 14, 15, 16, 17, 18, 19, 20, 31, 32, 33, 34, 35, 36, 37] = true := by decide +kernel
theorem mt_fst (hm : Nat → Nat) (kA : Nat) (ka : Nat → Nat) (cI cK : ClassId) (u v : MtS) : (mt_W hm kA ka cI cK u).map Prod.fst = (mt_W hm kA ka cI cK v).map Prod.fst := rfl
theorem mm_fst (hm hn : Nat → Nat) (kA kB : Nat) (cI : ClassId) (u v w : MtS) : (mm_W hm hn kA kB cI u w).map Prod.fst = (mm_W hm hn kA kB cI v w).map Prod.fst := rfl
theorem sx_kat (g m0 m1 m2 ka sa sn : Nat → Nat) (cI cJ cK cS : ClassId) (mu tr ke : MtS) (kp : Int32) (tby : Nat → Int32) (tlen ttok tsta tbeh tnum ttak : Int32) (sh : Nat → ShS) (fi : Nat → Int32) : ∀ j, j < 6 → (sx_W g m0 m1 m2 ka sa sn cI cJ cK cS mu tr ke kp tby tlen ttok tsta tbeh tnum ttak sh fi)[32 + j]? = some (ka j, .inr (kd_ci j, []))
  | 0, _ => rfl
  | 1, _ => rfl
  | 2, _ => rfl
  | 3, _ => rfl
  | 4, _ => rfl
  | 5, _ => rfl
theorem sx_so {g m0 m1 m2 ka sa sn : Nat → Nat} {cI cJ cK cS : ClassId} {mu tr ke : MtS} {kp : Int32} {tby : Nat → Int32} {tlen ttok tsta tbeh tnum ttak : Int32} {sh : Nat → ShS} {fi : Nat → Int32} {k : Nat} (hk : k < 4) : (sx_W g m0 m1 m2 ka sa sn cI cJ cK cS mu tr ke kp tby tlen ttok tsta tbeh tnum ttak sh fi)[41 + 2 * k]? = some (sa k, .inr (7, [.ref (sn k), .int (sh k).2.1, .int (sh k).2.2])) :=
  match k, hk with
  | 0, _ => rfl
  | 1, _ => rfl
  | 2, _ => rfl
  | 3, _ => rfl
theorem sx_sn {g m0 m1 m2 ka sa sn : Nat → Nat} {cI cJ cK cS : ClassId} {mu tr ke : MtS} {kp : Int32} {tby : Nat → Int32} {tlen ttok tsta tbeh tnum ttak : Int32} {sh : Nat → ShS} {fi : Nat → Int32} {k : Nat} (hk : k < 4) : (sx_W g m0 m1 m2 ka sa sn cI cJ cK cS mu tr ke kp tby tlen ttok tsta tbeh tnum ttak sh fi)[42 + 2 * k]? = some (sn k, .inl (cJ, 40, .inr (.inl (sh k).1))) :=
  match k, hk with
  | 0, _ => rfl
  | 1, _ => rfl
  | 2, _ => rfl
  | 3, _ => rfl
theorem sx_sC {g m0 m1 m2 ka sa sn : Nat → Nat} {cI cJ cK cS : ClassId} {mu tr ke : MtS} {kp : Int32} {tby : Nat → Int32} {tlen ttok tsta tbeh tnum ttak : Int32} {sh : Nat → ShS} {fi : Nat → Int32} {k : Nat} (hk : k < 4) : [41 + 2 * k, 42 + 2 * k].map (fun i => (sx_W g m0 m1 m2 ka sa sn cI cJ cK cS mu tr ke kp tby tlen ttok tsta tbeh tnum ttak sh fi)[i]?) = (sh_W (sa k) (sn k) cJ (sh k).1 (sh k).2.1 (sh k).2.2).map some :=
  match k, hk with
  | 0, _ => rfl
  | 1, _ => rfl
  | 2, _ => rfl
  | 3, _ => rfl
theorem sx_nd (k : Nat) : va_nd [41 + 2 * k, 42 + 2 * k] = true := by
  have h : ¬ 41 + 2 * k = 42 + 2 * k := by omega
  simp [va_nd, h]
theorem sx_sw {g m0 m1 m2 ka sa sn : Nat → Nat} {cI cJ cK cS : ClassId} {mu tr ke : MtS} {kp : Int32} {tby : Nat → Int32} {tlen ttok tsta tbeh tnum ttak : Int32} {sh : Nat → ShS} {fi : Nat → Int32} {k : Nat} (hk : k < 4) {num : Nat → Int64} {bit len : Int32} : sf_rp (sx_W g m0 m1 m2 ka sa sn cI cJ cK cS mu tr ke kp tby tlen ttok tsta tbeh tnum ttak sh fi) [41 + 2 * k, 42 + 2 * k] (sh_W (sa k) (sn k) cJ num bit len) = sx_W g m0 m1 m2 ka sa sn cI cJ cK cS mu tr ke kp tby tlen ttok tsta tbeh tnum ttak (sh_up sh k (num, bit, len)) fi :=
  match k, hk with
  | 0, _ => rfl
  | 1, _ => rfl
  | 2, _ => rfl
  | 3, _ => rfl
theorem sx_sz {g m0 m1 m2 ka sa sn : Nat → Nat} {cI cJ cK cS : ClassId} {mu tr ke : MtS} {kp : Int32} {tby : Nat → Int32} {tlen ttok tsta tbeh tnum ttak : Int32} {sh : Nat → ShS} {fi : Nat → Int32} {k : Nat} (hk : k < 4) : sf_rp (sx_W g m0 m1 m2 ka sa sn cI cJ cK cS mu tr ke kp tby tlen ttok tsta tbeh tnum ttak sh fi) [41 + 2 * k, 42 + 2 * k] (sh_W (sa k) (sn k) cJ (sh k).1 (sh k).2.1 (sh k).2.2) = sx_W g m0 m1 m2 ka sa sn cI cJ cK cS mu tr ke kp tby tlen ttok tsta tbeh tnum ttak sh fi :=
  match k, hk with
  | 0, _ => rfl
  | 1, _ => rfl
  | 2, _ => rfl
  | 3, _ => rfl
theorem sx_sN {g m0 m1 m2 ka sa sn : Nat → Nat} {cI cJ cK cS : ClassId} {mu tr ke : MtS} {kp : Int32} {tby : Nat → Int32} {tlen ttok tsta tbeh tnum ttak : Int32} {sh : Nat → ShS} {fi : Nat → Int32} {k : Nat} (hk : k < 4) {num : Nat → Int64} : (sx_W g m0 m1 m2 ka sa sn cI cJ cK cS mu tr ke kp tby tlen ttok tsta tbeh tnum ttak sh fi).set (42 + 2 * k) (sn k, .inl (cJ, 40, .inr (.inl num))) = sx_W g m0 m1 m2 ka sa sn cI cJ cK cS mu tr ke kp tby tlen ttok tsta tbeh tnum ttak (sh_up sh k (num, (sh k).2.1, (sh k).2.2)) fi :=
  match k, hk with
  | 0, _ => rfl
  | 1, _ => rfl
  | 2, _ => rfl
  | 3, _ => rfl
theorem cst_X5_X0 : Cond.castable RX5 RX0 ∈ sf_nwL := sf_memN 1223 (by decide +kernel) rfl
theorem cst_X1_X2 : Cond.castable RX1 RX2 ∈ sf_nwL := sf_memN 1224 (by decide +kernel) rfl
theorem cst_X6_X3 : Cond.castable RX6 RX3 ∈ sf_nwL := sf_memN 1225 (by decide +kernel) rfl
theorem cst_X0_X3 : Cond.castable RX0 RX3 ∈ sf_nwL := sf_memN 1226 (by decide +kernel) rfl
theorem cst_X2_X3 : Cond.castable RX2 RX3 ∈ sf_nwL := sf_memN 1227 (by decide +kernel) rfl
theorem cst_X1_X3 : Cond.castable RX1 RX3 ∈ sf_nwL := sf_memN 1228 (by decide +kernel) rfl
theorem cst_X5_X3 : Cond.castable RX5 RX3 ∈ sf_nwL := sf_memN 1229 (by decide +kernel) rfl
/-! X8_append -/
def f_X8_append (tby : Nat → Int32) (tlen : Int32) (a0 : Int32) : Option ((Nat → Int32) × Int32) := (if (120 : Int32) ≤ tlen then (some (tby, tlen)) else (gx tlen 120 (some ((upd tby (tlen).toNatClampNeg a0), (tlen + (1 : Int32))))))
/-! X8_advance -/
def f_X8_advance_b95 (tby : Nat → Int32) (tlen : Int32) : Nat → Int32 → Int32 → Int32 → Int32 → Option (Int32 × Int32 × Int32 × Int32)
  | 0, _, _, _, _ => none
  | n + 1, ttok, tsta, tbeh, tnum => (if tlen ≤ tbeh then (some (ttok, tsta, tbeh, tnum)) else (gx tbeh 120 (bd (f_X8_isLetter (tby (tbeh).toNatClampNeg)) (fun r18 => (if r18 = 0 then (some (ttok, tsta, tbeh, tnum)) else (f_X8_advance_b95 tby tlen n ttok tsta (tbeh + (1 : Int32)) tnum))))))
def f_X8_advance_b154 (tby : Nat → Int32) (tlen : Int32) : Nat → Int32 → Int32 → Int32 → Int32 → Option (Int32 × Int32 × Int32 × Int32)
  | 0, _, _, _, _ => none
  | n + 1, ttok, tsta, tbeh, tnum => (if tlen ≤ tbeh then (some (ttok, tsta, tbeh, tnum)) else (gx tbeh 120 (bd (f_X8_isDigit (tby (tbeh).toNatClampNeg)) (fun r13 => (if r13 = 0 then (some (ttok, tsta, tbeh, tnum)) else (gx tbeh 120 (f_X8_advance_b154 tby tlen n ttok tsta (tbeh + (1 : Int32)) (if (((tnum * (10 : Int32)) + (tby (tbeh).toNatClampNeg)) - (48 : Int32)) < (10000 : Int32) then (((tnum * (10 : Int32)) + (tby (tbeh).toNatClampNeg)) - (48 : Int32)) else (10000 : Int32)))))))))
def f_X8_advance_b38 (tby : Nat → Int32) (tlen : Int32) (ttok : Int32) (tsta : Int32) (tbeh : Int32) (tnum : Int32) : Option (Int32 × Int32 × Int32 × Int32) := (if tbeh < tlen then (gx tbeh 120 (bd (f_X8_isLetter (tby (tbeh).toNatClampNeg)) (fun r6 => (if r6 = 0 then (bd (f_X8_isDigit (tby (tbeh).toNatClampNeg)) (fun r8 => (if r8 = 0 then (if (tby (tbeh).toNatClampNeg) = (59 : Int32) then (some ((3 : Int32), tbeh, (tbeh + (1 : Int32)), tnum)) else (some ((4 : Int32), tbeh, (tbeh + (1 : Int32)), tnum))) else (f_X8_advance_b154 tby tlen 1000 (2 : Int32) tbeh (tbeh + (1 : Int32)) ((tby (tbeh).toNatClampNeg) - (48 : Int32)))))) else (f_X8_advance_b95 tby tlen 1000 (1 : Int32) tbeh (tbeh + (1 : Int32)) tnum))))) else (some ((0 : Int32), tbeh, tbeh, tnum)))
def f_X8_advance_b0 (tby : Nat → Int32) (tlen : Int32) : Nat → Int32 → Int32 → Int32 → Int32 → Option (Int32 × Int32 × Int32 × Int32)
  | 0, _, _, _, _ => none
  | n + 1, ttok, tsta, tbeh, tnum => (if tlen ≤ tbeh then (f_X8_advance_b38 tby tlen ttok tsta tbeh tnum) else (gx tbeh 120 (if (tby (tbeh).toNatClampNeg) = (32 : Int32) then (f_X8_advance_b0 tby tlen n ttok tsta (tbeh + (1 : Int32)) tnum) else (f_X8_advance_b38 tby tlen ttok tsta tbeh tnum))))
def f_X8_advance (tby : Nat → Int32) (tlen : Int32) (ttok : Int32) (tsta : Int32) (tbeh : Int32) (tnum : Int32) : Option (Int32 × Int32 × Int32 × Int32) := (f_X8_advance_b0 tby tlen 1000 ttok tsta tbeh tnum)
/-! X8_isWord -/
def f_X8_isWord_b28 (tby : Nat → Int32) (tlen : Int32) (ttok : Int32) (tsta : Int32) (tbeh : Int32) : Nat → Nat → Int32 → Option (Int32)
  | 0, _, _ => none
  | n + 1, x1, x2 => (gk x1 13 (if (Int32.ofNat (sf_len.getD x1 0)) ≤ x2 then (some (1 : Int32)) else (if tlen ≤ (tsta + x2) then (some (1 : Int32)) else (gx (tsta + x2) 120 (gk x1 13 (gx x2 (sf_len.getD x1 0) (if (tby ((tsta + x2)).toNatClampNeg) = (sf_chr x1 x2) then (f_X8_isWord_b28 tby tlen ttok tsta tbeh n x1 (x2 + (1 : Int32))) else (some (0 : Int32)))))))))
def f_X8_isWord (tby : Nat → Int32) (tlen : Int32) (ttok : Int32) (tsta : Int32) (tbeh : Int32) (w0 : Nat) : Option (Int32) := (if ttok = (1 : Int32) then (gk w0 13 (if (tbeh - tsta) = (Int32.ofNat (sf_len.getD w0 0)) then (f_X8_isWord_b28 tby tlen ttok tsta tbeh 1000 w0 (0 : Int32)) else (some (0 : Int32)))) else (some (0 : Int32)))
/-! X8_take -/
def f_X8_take (tby : Nat → Int32) (tlen : Int32) (ttok : Int32) (tsta : Int32) (tbeh : Int32) (tnum : Int32) (ttak : Int32) (a0 : Int32) (a1 : Int32) : Option (Int32 × Int32 × Int32 × Int32 × Int32 × Int32) := (if ttok = (2 : Int32) then (bd (f_X9_isWithin tnum a0 a1) (fun r2 => (if r2 = 0 then (some ((0 : Int32), ttok, tsta, tbeh, tnum, ttak)) else (bd (f_X8_advance tby tlen ttok tsta tbeh tnum) (fun r4 => (some ((1 : Int32), r4.1, r4.2.1, r4.2.2.1, r4.2.2.2, tnum))))))) else (some ((0 : Int32), ttok, tsta, tbeh, tnum, ttak)))
/-! X8_takeWord -/
def f_X8_takeWord (tby : Nat → Int32) (tlen : Int32) (ttok : Int32) (tsta : Int32) (tbeh : Int32) (tnum : Int32) (w0 : Nat) : Option (Int32 × Int32 × Int32 × Int32 × Int32) := (bd (f_X8_isWord tby tlen ttok tsta tbeh w0) (fun r1 => (if r1 = 0 then (some ((0 : Int32), ttok, tsta, tbeh, tnum)) else (bd (f_X8_advance tby tlen ttok tsta tbeh tnum) (fun r3 => (some ((1 : Int32), r3.1, r3.2.1, r3.2.2.1, r3.2.2.2)))))))
/-! X8_fineItem -/
def f_X8_fineItem_b87 (tby : Nat → Int32) (tlen : Int32) (ttok : Int32) (tsta : Int32) (tbeh : Int32) (tnum : Int32) (ttak : Int32) (u : MtS) (x2 : Int32) (x3 : Int32) (x4 : Int32) (x5 : Int32) : Option (Int32 × Int32 × Int32 × Int32 × Int32 × Int32 × MtS) := (bd (f_X4_addFine u x2 x3 x4 x5) (fun r14 => (some ((1 : Int32), ttok, tsta, tbeh, tnum, ttak, r14))))
def f_X8_fineItem (tby : Nat → Int32) (tlen : Int32) (ttok : Int32) (tsta : Int32) (tbeh : Int32) (tnum : Int32) (ttak : Int32) (u : MtS) (a1 : Int32) : Option (Int32 × Int32 × Int32 × Int32 × Int32 × Int32 × MtS) := (bd (f_X4_isFull u) (fun r1 => (if r1 = 0 then (bd (f_X8_advance tby tlen ttok tsta tbeh tnum) (fun r3 => (bd (f_X8_take tby tlen r3.1 r3.2.1 r3.2.2.1 r3.2.2.2 ttak (1 : Int32) (40 : Int32)) (fun r4 => (if r4.1 = 0 then (some ((0 : Int32), r4.2.1, r4.2.2.1, r4.2.2.2.1, r4.2.2.2.2.1, r4.2.2.2.2.2, u)) else (bd (f_X8_takeWord tby tlen r4.2.1 r4.2.2.1 r4.2.2.2.1 r4.2.2.2.2.1 6) (fun r6 => (if r6.1 = 0 then (some ((0 : Int32), r6.2.1, r6.2.2.1, r6.2.2.2.1, r6.2.2.2.2, r4.2.2.2.2.2, u)) else (bd (f_X8_take tby tlen r6.2.1 r6.2.2.1 r6.2.2.2.1 r6.2.2.2.2 r4.2.2.2.2.2 (0 : Int32) (39 : Int32)) (fun r8 => (if r8.1 = 0 then (some ((0 : Int32), r8.2.1, r8.2.2.1, r8.2.2.2.1, r8.2.2.2.2.1, r8.2.2.2.2.2, u)) else (bd (f_X8_takeWord tby tlen r8.2.1 r8.2.2.1 r8.2.2.2.1 r8.2.2.2.2.1 7) (fun r10 => (if r10.1 = 0 then (f_X8_fineItem_b87 tby tlen r10.2.1 r10.2.2.1 r10.2.2.2.1 r10.2.2.2.2 r8.2.2.2.2.2 u a1 r4.2.2.2.2.2 r8.2.2.2.2.2 (3 : Int32)) else (bd (f_X8_take tby tlen r10.2.1 r10.2.2.1 r10.2.2.2.1 r10.2.2.2.2 r8.2.2.2.2.2 (1 : Int32) (9 : Int32)) (fun r12 => (if r12.1 = 0 then (some ((0 : Int32), r12.2.1, r12.2.2.1, r12.2.2.2.1, r12.2.2.2.2.1, r12.2.2.2.2.2, u)) else (f_X8_fineItem_b87 tby tlen r12.2.1 r12.2.2.1 r12.2.2.2.1 r12.2.2.2.2.1 r12.2.2.2.2.2 u a1 r4.2.2.2.2.2 r8.2.2.2.2.2 r12.2.2.2.2.2)))))))))))))))))) else (some ((0 : Int32), ttok, tsta, tbeh, tnum, ttak, u)))))
/-! X8_rockItem -/
def f_X8_rockItem_b69 (tby : Nat → Int32) (tlen : Int32) : Nat → Int32 → Int32 → Int32 → Int32 → Int32 → MtS → Int32 → Int32 → Option (Int32 × Int32 × Int32 × Int32 × Int32 × Int32 × MtS)
  | 0, _, _, _, _, _, _, _, _ => none
  | n + 1, ttok, tsta, tbeh, tnum, ttak, u, x3, x4 => (if x3 < x4 then (some ((1 : Int32), ttok, tsta, tbeh, tnum, ttak, u)) else (if (40 : Int32) ≤ x4 then (some ((1 : Int32), ttok, tsta, tbeh, tnum, ttak, u)) else (gx x4 40 (f_X8_rockItem_b69 tby tlen n ttok tsta tbeh tnum ttak (mt_mk (u.1 0 0) (u.1 0 1) (u.1 0 2) (u.1 0 3) (u.1 0 4) (upd (u.1 1) (x4).toNatClampNeg ttak) (u.1 2) (u.1 3) (u.1 4) (u.1 5) (u.1 6) (u.1 7) (u.1 8) (u.1 9) u.2) x3 (x4 + (1 : Int32))))))
def f_X8_rockItem_b45 (tby : Nat → Int32) (tlen : Int32) (ttok : Int32) (tsta : Int32) (tbeh : Int32) (tnum : Int32) (ttak : Int32) (u : MtS) (x2 : Int32) (x3 : Int32) : Option (Int32 × Int32 × Int32 × Int32 × Int32 × Int32 × MtS) := (bd (f_X8_takeWord tby tlen ttok tsta tbeh tnum 10) (fun r7 => (if r7.1 = 0 then (some ((0 : Int32), r7.2.1, r7.2.2.1, r7.2.2.2.1, r7.2.2.2.2, ttak, u)) else (bd (f_X8_take tby tlen r7.2.1 r7.2.2.1 r7.2.2.2.1 r7.2.2.2.2 ttak (1 : Int32) (9 : Int32)) (fun r9 => (if r9.1 = 0 then (some ((0 : Int32), r9.2.1, r9.2.2.1, r9.2.2.2.1, r9.2.2.2.2.1, r9.2.2.2.2.2, u)) else (f_X8_rockItem_b69 tby tlen 1000 r9.2.1 r9.2.2.1 r9.2.2.2.1 r9.2.2.2.2.1 r9.2.2.2.2.2 u x3 x2)))))))
def f_X8_rockItem (tby : Nat → Int32) (tlen : Int32) (ttok : Int32) (tsta : Int32) (tbeh : Int32) (tnum : Int32) (ttak : Int32) (u : MtS) : Option (Int32 × Int32 × Int32 × Int32 × Int32 × Int32 × MtS) := (bd (f_X8_take tby tlen ttok tsta tbeh tnum ttak (0 : Int32) (39 : Int32)) (fun r1 => (if r1.1 = 0 then (some ((0 : Int32), r1.2.1, r1.2.2.1, r1.2.2.2.1, r1.2.2.2.2.1, r1.2.2.2.2.2, u)) else (bd (f_X8_takeWord tby tlen r1.2.1 r1.2.2.1 r1.2.2.2.1 r1.2.2.2.2.1 9) (fun r3 => (if r3.1 = 0 then (f_X8_rockItem_b45 tby tlen r3.2.1 r3.2.2.1 r3.2.2.2.1 r3.2.2.2.2 r1.2.2.2.2.2 u r1.2.2.2.2.2 r1.2.2.2.2.2) else (bd (f_X8_take tby tlen r3.2.1 r3.2.2.1 r3.2.2.2.1 r3.2.2.2.2 r1.2.2.2.2.2 r1.2.2.2.2.2 (39 : Int32)) (fun r5 => (if r5.1 = 0 then (some ((0 : Int32), r5.2.1, r5.2.2.1, r5.2.2.2.1, r5.2.2.2.2.1, r5.2.2.2.2.2, u)) else (f_X8_rockItem_b45 tby tlen r5.2.1 r5.2.2.1 r5.2.2.2.1 r5.2.2.2.2.1 r5.2.2.2.2.2 u r1.2.2.2.2.2 r5.2.2.2.2.2))))))))))
/-! X8_item -/
def f_X8_item_b2 (tby : Nat → Int32) (tlen : Int32) : Nat → Int32 → Int32 → Int32 → Int32 → Int32 → MtS → Int32 → Option (Int32 × Int32 × Int32 × Int32 × Int32 × Int32 × MtS)
  | 0, _, _, _, _, _, _, _ => none
  | n + 1, ttok, tsta, tbeh, tnum, ttak, u, x2 => (if (6 : Int32) ≤ x2 then (bd (f_X8_takeWord tby tlen ttok tsta tbeh tnum 8) (fun r2 => (if r2.1 = 0 then (bd (f_X8_takeWord tby tlen r2.2.1 r2.2.2.1 r2.2.2.2.1 r2.2.2.2.2 11) (fun r4 => (if r4.1 = 0 then (bd (f_X8_takeWord tby tlen r4.2.1 r4.2.2.1 r4.2.2.2.1 r4.2.2.2.2 12) (fun r6 => (if r6.1 = 0 then (some ((0 : Int32), r6.2.1, r6.2.2.1, r6.2.2.2.1, r6.2.2.2.2, ttak, u)) else (bd (f_X8_take tby tlen r6.2.1 r6.2.2.1 r6.2.2.2.1 r6.2.2.2.2 ttak (0 : Int32) (20 : Int32)) (fun r8 => (if r8.1 = 0 then (some ((0 : Int32), r8.2.1, r8.2.2.1, r8.2.2.2.1, r8.2.2.2.2.1, r8.2.2.2.2.2, u)) else (some ((1 : Int32), r8.2.1, r8.2.2.1, r8.2.2.2.1, r8.2.2.2.2.1, r8.2.2.2.2.2, (mt_mk (u.1 0 0) (u.1 0 1) r8.2.2.2.2.2 (u.1 0 3) (u.1 0 4) (u.1 1) (u.1 2) (u.1 3) (u.1 4) (u.1 5) (u.1 6) (u.1 7) (u.1 8) (u.1 9) u.2))))))))) else (bd (f_X8_take tby tlen r4.2.1 r4.2.2.1 r4.2.2.2.1 r4.2.2.2.2 ttak (0 : Int32) (9 : Int32)) (fun r10 => (if r10.1 = 0 then (some ((0 : Int32), r10.2.1, r10.2.2.1, r10.2.2.2.1, r10.2.2.2.2.1, r10.2.2.2.2.2, u)) else (some ((1 : Int32), r10.2.1, r10.2.2.1, r10.2.2.2.1, r10.2.2.2.2.1, r10.2.2.2.2.2, (mt_mk (u.1 0 0) r10.2.2.2.2.2 (u.1 0 2) (u.1 0 3) (u.1 0 4) (u.1 1) (u.1 2) (u.1 3) (u.1 4) (u.1 5) (u.1 6) (u.1 7) (u.1 8) (u.1 9) u.2))))))))) else (bd (f_X8_rockItem tby tlen r2.2.1 r2.2.2.1 r2.2.2.2.1 r2.2.2.2.2 ttak u) (fun r12 => (gb r12.1 (some (r12.1, r12.2.1, r12.2.2.1, r12.2.2.2.1, r12.2.2.2.2.1, r12.2.2.2.2.2.1, r12.2.2.2.2.2.2)))))))) else (gx x2 6 (gk (x2).toNatClampNeg 6 (bd (kd_name (x2).toNatClampNeg) (fun r16 => (bd (f_X8_isWord tby tlen ttok tsta tbeh r16) (fun r17 => (if r17 = 0 then (f_X8_item_b2 tby tlen n ttok tsta tbeh tnum ttak u (x2 + (1 : Int32))) else (bd (f_X8_fineItem tby tlen ttok tsta tbeh tnum ttak u x2) (fun r19 => (gb r19.1 (some (r19.1, r19.2.1, r19.2.2.1, r19.2.2.2.1, r19.2.2.2.2.1, r19.2.2.2.2.2.1, r19.2.2.2.2.2.2)))))))))))))
def f_X8_item (tby : Nat → Int32) (tlen : Int32) (ttok : Int32) (tsta : Int32) (tbeh : Int32) (tnum : Int32) (ttak : Int32) (u : MtS) : Option (Int32 × Int32 × Int32 × Int32 × Int32 × Int32 × MtS) := (f_X8_item_b2 tby tlen 1000 ttok tsta tbeh tnum ttak u (0 : Int32))
/-! X8_tell -/
def f_X8_tell_b11 (tby : Nat → Int32) (tlen : Int32) : Nat → Int32 → Int32 → Int32 → Int32 → Int32 → MtS → Int32 → Option (Int32 × Int32 × Int32 × Int32 × Int32 × Int32 × MtS)
  | 0, _, _, _, _, _, _, _ => none
  | n + 1, ttok, tsta, tbeh, tnum, ttak, u, x2 => (if (120 : Int32) < x2 then (some (((-1 : Int32) - tsta), ttok, tsta, tbeh, tnum, ttak, u)) else (bd (f_X8_item tby tlen ttok tsta tbeh tnum ttak u) (fun r3 => (if r3.1 = 0 then (some (((-1 : Int32) - r3.2.2.1), r3.2.1, r3.2.2.1, r3.2.2.2.1, r3.2.2.2.2.1, r3.2.2.2.2.2.1, r3.2.2.2.2.2.2)) else (if r3.2.1 = 0 then (some (x2, r3.2.1, r3.2.2.1, r3.2.2.2.1, r3.2.2.2.2.1, r3.2.2.2.2.2.1, r3.2.2.2.2.2.2)) else (if r3.2.1 = (3 : Int32) then (bd (f_X8_advance tby tlen r3.2.1 r3.2.2.1 r3.2.2.2.1 r3.2.2.2.2.1) (fun r7 => (f_X8_tell_b11 tby tlen n r7.1 r7.2.1 r7.2.2.1 r7.2.2.2 r3.2.2.2.2.2.1 r3.2.2.2.2.2.2 (x2 + (1 : Int32))))) else (some (((-1 : Int32) - r3.2.2.1), r3.2.1, r3.2.2.1, r3.2.2.2.1, r3.2.2.2.2.1, r3.2.2.2.2.2.1, r3.2.2.2.2.2.2))))))))
def f_X8_tell (tby : Nat → Int32) (tlen : Int32) (ttok : Int32) (tsta : Int32) (tbeh : Int32) (tnum : Int32) (ttak : Int32) (u : MtS) : Option (Int32 × Int32 × Int32 × Int32 × Int32 × Int32 × MtS) := (bd (f_X8_advance tby tlen ttok tsta (0 : Int32) tnum) (fun r1 => (f_X8_tell_b11 tby tlen 1000 r1.1 r1.2.1 r1.2.2.1 r1.2.2.2 ttak u (1 : Int32))))
/-! X9_isOfKind_0 -/
def f_X9_isOfKind_0 (a1 : Int32) : Option (Int32) := (if a1 = (0 : Int32) then (some (1 : Int32)) else (if a1 = (1 : Int32) then (some (0 : Int32)) else (if a1 = (2 : Int32) then (some (0 : Int32)) else (if a1 = (3 : Int32) then (some (0 : Int32)) else (if a1 = (4 : Int32) then (some (0 : Int32)) else (if a1 = (5 : Int32) then (some (0 : Int32)) else (some (0 : Int32))))))))
/-! X9_isOfKind_1 -/
def f_X9_isOfKind_1 (a1 : Int32) : Option (Int32) := (if a1 = (0 : Int32) then (some (1 : Int32)) else (if a1 = (1 : Int32) then (some (1 : Int32)) else (if a1 = (2 : Int32) then (some (0 : Int32)) else (if a1 = (3 : Int32) then (some (0 : Int32)) else (if a1 = (4 : Int32) then (some (0 : Int32)) else (if a1 = (5 : Int32) then (some (0 : Int32)) else (some (0 : Int32))))))))
/-! X9_isOfKind_2 -/
def f_X9_isOfKind_2 (a1 : Int32) : Option (Int32) := (if a1 = (0 : Int32) then (some (1 : Int32)) else (if a1 = (1 : Int32) then (some (0 : Int32)) else (if a1 = (2 : Int32) then (some (1 : Int32)) else (if a1 = (3 : Int32) then (some (0 : Int32)) else (if a1 = (4 : Int32) then (some (0 : Int32)) else (if a1 = (5 : Int32) then (some (0 : Int32)) else (some (0 : Int32))))))))
/-! X9_isOfKind_3 -/
def f_X9_isOfKind_3 (a1 : Int32) : Option (Int32) := (if a1 = (0 : Int32) then (some (1 : Int32)) else (if a1 = (1 : Int32) then (some (0 : Int32)) else (if a1 = (2 : Int32) then (some (0 : Int32)) else (if a1 = (3 : Int32) then (some (1 : Int32)) else (if a1 = (4 : Int32) then (some (0 : Int32)) else (if a1 = (5 : Int32) then (some (0 : Int32)) else (some (0 : Int32))))))))
/-! X9_isOfKind_4 -/
def f_X9_isOfKind_4 (a1 : Int32) : Option (Int32) := (if a1 = (0 : Int32) then (some (1 : Int32)) else (if a1 = (1 : Int32) then (some (0 : Int32)) else (if a1 = (2 : Int32) then (some (0 : Int32)) else (if a1 = (3 : Int32) then (some (1 : Int32)) else (if a1 = (4 : Int32) then (some (1 : Int32)) else (if a1 = (5 : Int32) then (some (0 : Int32)) else (some (0 : Int32))))))))
/-! X9_isOfKind_5 -/
def f_X9_isOfKind_5 (a1 : Int32) : Option (Int32) := (if a1 = (0 : Int32) then (some (1 : Int32)) else (if a1 = (1 : Int32) then (some (0 : Int32)) else (if a1 = (2 : Int32) then (some (1 : Int32)) else (if a1 = (3 : Int32) then (some (0 : Int32)) else (if a1 = (4 : Int32) then (some (0 : Int32)) else (if a1 = (5 : Int32) then (some (1 : Int32)) else (some (0 : Int32))))))))
