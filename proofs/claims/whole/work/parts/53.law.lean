/-! the law: its calls, one by one -/
section LC
variable {p : Program} {l : Launch} {e : Env} {s : State} {m : MethodId} {args : Array Value} {below : List Frame} {meth : Method} {c : Code} {Q : State → Prop} {D : sf_D} {A : Nat → Prop} {g m0 m1 m2 ka sa sn h : Nat → Nat} {cI cJ cK cS : ClassId} {b i L : Nat} {xs : Nat → Int32}
theorem cs_on (cx : sf_Cx p m meth c cL_law 4 s args RL D (sf_ty cI cJ cK cS) A) (X : LX s A b L xs i) (K : LG p l e s m args below meth c Q D A g m0 m1 m2 ka sa sn h cI cJ cK cS b i 1399) : LG p l e s m args below meth c Q D A g m0 m1 m2 ka sa sn h cI cJ cK cS b i 673 := by
  intro mu tr ke kp tby tlen ttok tsta tbeh tnum ttak sh fi row fnd tape tmany sort begs tends word valu good bits size shts lent imag befo kept hR
  obtain ⟨r, trq_n, fiq_n, rowq_n, fndq_n, hc, hm, xRA, xRF⟩ := op_on hR.1 hR.2.1 tr (xs (i + 1))
  refine sw_aload_n (pc' := 674) cx dL_law_673 rfl 2 rfl rfl ?_
  refine sw_scr (pc' := 679) cx X 1 (by decide) (by decide) dL_law_674 dL_law_675 dL_law_676 dL_law_677 dL_law_678 rfl ?_
  refine sw_callA (As := [.int (xs (i + 1))]) (rest := []) (pc' := 682) cx (k_X9_on l D g m0 m1 m2 ka sa sn cI cJ cK cS mu tr ke kp tby tlen ttok tsta tbeh tnum ttak sh fi (xs (i + 1)) _ hc) pk_yX9_on ml_RL_79 ⟨rfl, rfl⟩ ⟨Nat.le_of_ble_eq_true rfl, Nat.le_of_ble_eq_true rfl⟩ ⟨Nat.le_of_ble_eq_true rfl, Nat.le_of_ble_eq_true rfl⟩ sx_adr sx_0 rfl rfl rfl (Nat.le_of_ble_eq_true rfl) rfl dL_law_679 rfl ?_
  refine sw_aload_n (pc' := 683) cx dL_law_682 rfl 1 rfl rfl ?_
  refine sw_scr (pc' := 688) cx X 1 (by decide) (by decide) dL_law_683 dL_law_684 dL_law_685 dL_law_686 dL_law_687 rfl ?_
  refine sw_callB (As := [.int (xs (i + 1))]) (rest := [.long r]) (pc' := 691) cx (k_X10_on l D h cI cJ cK cS row (nI 0) fnd tape tmany sort begs tends word valu good bits size shts lent imag befo kept (xs (i + 1)) _ hm) pk_yX10_on ml_RL_83 ⟨rfl, rfl⟩ ⟨Nat.le_of_ble_eq_true rfl, Nat.le_of_ble_eq_true rfl⟩ ⟨Nat.le_of_ble_eq_true rfl, Nat.le_of_ble_eq_true rfl⟩ rfl rfl rfl rfl rfl (Nat.le_of_ble_eq_true rfl) rfl dL_law_688 rfl ?_
  refine sw_lcmp (pc' := 692) cx dL_law_691 rfl ?_
  refine sw_if_eq (tgt := 1399) (pc' := 695) cx dL_law_692 (by decide) rfl (fun _ => ?_) (fun hne => absurd ((lg_cmp_eq r r).mpr rfl) hne)
  exact K _ _ _ _ _ _ _ _ _ _ _ _ _ _ _ _ _ _ _ _ _ _ _ _ _ _ _ _ _ _ ⟨xRA, xRF, hR.2.2.1, hR.2.2.2.1, hR.2.2.2.2⟩
theorem cs_reachOn (cx : sf_Cx p m meth c cL_law 4 s args RL D (sf_ty cI cJ cK cS) A) (X : LX s A b L xs i) (K : LG p l e s m args below meth c Q D A g m0 m1 m2 ka sa sn h cI cJ cK cS b i 1399) : LG p l e s m args below meth c Q D A g m0 m1 m2 ka sa sn h cI cJ cK cS b i 697 := by
  intro mu tr ke kp tby tlen ttok tsta tbeh tnum ttak sh fi row fnd tape tmany sort begs tends word valu good bits size shts lent imag befo kept hR
  obtain ⟨r, trq_n, fiq_n, rowq_n, fndq_n, hc, hm, xRA, xRF⟩ := op_reachOn hR.1 hR.2.1 tr (xs (i + 1))
  refine sw_aload_n (pc' := 698) cx dL_law_697 rfl 2 rfl rfl ?_
  refine sw_scr (pc' := 703) cx X 1 (by decide) (by decide) dL_law_698 dL_law_699 dL_law_700 dL_law_701 dL_law_702 rfl ?_
  refine sw_callA (As := [.int (xs (i + 1))]) (rest := []) (pc' := 706) cx (k_X9_reachOn l D g m0 m1 m2 ka sa sn cI cJ cK cS mu tr ke kp tby tlen ttok tsta tbeh tnum ttak sh fi (xs (i + 1)) _ hc) pk_yX9_reachOn ml_RL_84 ⟨rfl, rfl⟩ ⟨Nat.le_of_ble_eq_true rfl, Nat.le_of_ble_eq_true rfl⟩ ⟨Nat.le_of_ble_eq_true rfl, Nat.le_of_ble_eq_true rfl⟩ sx_adr sx_0 rfl rfl rfl (Nat.le_of_ble_eq_true rfl) rfl dL_law_703 rfl ?_
  refine sw_aload_n (pc' := 707) cx dL_law_706 rfl 1 rfl rfl ?_
  refine sw_scr (pc' := 712) cx X 1 (by decide) (by decide) dL_law_707 dL_law_708 dL_law_709 dL_law_710 dL_law_711 rfl ?_
  refine sw_callB (As := [.int (xs (i + 1))]) (rest := [.int r]) (pc' := 715) cx (k_X10_reachOn l D h cI cJ cK cS row (nI 0) fnd tape tmany sort begs tends word valu good bits size shts lent imag befo kept (xs (i + 1)) _ hm) pk_yX10_reachOn ml_RL_87 ⟨rfl, rfl⟩ ⟨Nat.le_of_ble_eq_true rfl, Nat.le_of_ble_eq_true rfl⟩ ⟨Nat.le_of_ble_eq_true rfl, Nat.le_of_ble_eq_true rfl⟩ rfl rfl rfl rfl rfl (Nat.le_of_ble_eq_true rfl) rfl dL_law_712 rfl ?_
  refine sw_icmp_eq (tgt := 1399) (pc' := 718) cx dL_law_715 (by decide) rfl (fun _ => ?_) (fun hne => absurd rfl hne)
  exact K _ _ _ _ _ _ _ _ _ _ _ _ _ _ _ _ _ _ _ _ _ _ _ _ _ _ _ _ _ _ ⟨xRA, xRF, hR.2.2.1, hR.2.2.2.1, hR.2.2.2.2⟩
theorem cs_pass (cx : sf_Cx p m meth c cL_law 4 s args RL D (sf_ty cI cJ cK cS) A) (X : LX s A b L xs i) (K : LG p l e s m args below meth c Q D A g m0 m1 m2 ka sa sn h cI cJ cK cS b i 1399) : LG p l e s m args below meth c Q D A g m0 m1 m2 ka sa sn h cI cJ cK cS b i 720 := by
  intro mu tr ke kp tby tlen ttok tsta tbeh tnum ttak sh fi row fnd tape tmany sort begs tends word valu good bits size shts lent imag befo kept hR
  obtain ⟨r, trq_n, fiq_n, rowq_n, fndq_n, hc, hm, xRA, xRF⟩ := op_pass hR.1 hR.2.1 tr
  refine sw_aload_n (pc' := 721) cx dL_law_720 rfl 2 rfl rfl ?_
  refine sw_callA (As := []) (rest := []) (pc' := 724) cx (k_X9_pass l D g m0 m1 m2 ka sa sn cI cJ cK cS mu tr ke kp tby tlen ttok tsta tbeh tnum ttak sh fi  _ hc) pk_yX9_pass ml_RL_88 ⟨rfl, rfl⟩ ⟨Nat.le_of_ble_eq_true rfl, Nat.le_of_ble_eq_true rfl⟩ ⟨Nat.le_of_ble_eq_true rfl, Nat.le_of_ble_eq_true rfl⟩ sx_adr sx_0 rfl rfl rfl (Nat.le_of_ble_eq_true rfl) rfl dL_law_721 rfl ?_
  refine sw_aload_n (pc' := 725) cx dL_law_724 rfl 1 rfl rfl ?_
  refine sw_callB (As := []) (rest := [.int r]) (pc' := 728) cx (k_X10_pass l D h cI cJ cK cS row (nI 0) fnd tape tmany sort begs tends word valu good bits size shts lent imag befo kept  _ hm) pk_yX10_pass ml_RL_91 ⟨rfl, rfl⟩ ⟨Nat.le_of_ble_eq_true rfl, Nat.le_of_ble_eq_true rfl⟩ ⟨Nat.le_of_ble_eq_true rfl, Nat.le_of_ble_eq_true rfl⟩ rfl rfl rfl rfl rfl (Nat.le_of_ble_eq_true rfl) rfl dL_law_725 rfl ?_
  refine sw_icmp_eq (tgt := 1399) (pc' := 731) cx dL_law_728 (by decide) rfl (fun _ => ?_) (fun hne => absurd rfl hne)
  exact K _ _ _ _ _ _ _ _ _ _ _ _ _ _ _ _ _ _ _ _ _ _ _ _ _ _ _ _ _ _ ⟨xRA, xRF, hR.2.2.1, hR.2.2.2.1, hR.2.2.2.2⟩
theorem cs_paid (cx : sf_Cx p m meth c cL_law 4 s args RL D (sf_ty cI cJ cK cS) A) (X : LX s A b L xs i) (K : LG p l e s m args below meth c Q D A g m0 m1 m2 ka sa sn h cI cJ cK cS b i 1399) : LG p l e s m args below meth c Q D A g m0 m1 m2 ka sa sn h cI cJ cK cS b i 733 := by
  intro mu tr ke kp tby tlen ttok tsta tbeh tnum ttak sh fi row fnd tape tmany sort begs tends word valu good bits size shts lent imag befo kept hR
  obtain ⟨r, trq_n, fiq_n, rowq_n, fndq_n, hc, hm, xRA, xRF⟩ := op_paid hR.1 hR.2.1 tr (xs (i + 1))
  refine sw_aload_n (pc' := 734) cx dL_law_733 rfl 2 rfl rfl ?_
  refine sw_scr (pc' := 739) cx X 1 (by decide) (by decide) dL_law_734 dL_law_735 dL_law_736 dL_law_737 dL_law_738 rfl ?_
  refine sw_callA (As := [.int (xs (i + 1))]) (rest := []) (pc' := 742) cx (k_X9_paid l D g m0 m1 m2 ka sa sn cI cJ cK cS mu tr ke kp tby tlen ttok tsta tbeh tnum ttak sh fi (xs (i + 1)) _ hc) pk_yX9_paid ml_RL_92 ⟨rfl, rfl⟩ ⟨Nat.le_of_ble_eq_true rfl, Nat.le_of_ble_eq_true rfl⟩ ⟨Nat.le_of_ble_eq_true rfl, Nat.le_of_ble_eq_true rfl⟩ sx_adr sx_0 rfl rfl rfl (Nat.le_of_ble_eq_true rfl) rfl dL_law_739 rfl ?_
  refine sw_aload_n (pc' := 743) cx dL_law_742 rfl 1 rfl rfl ?_
  refine sw_scr (pc' := 748) cx X 1 (by decide) (by decide) dL_law_743 dL_law_744 dL_law_745 dL_law_746 dL_law_747 rfl ?_
  refine sw_callB (As := [.int (xs (i + 1))]) (rest := [.int r]) (pc' := 751) cx (k_X10_paid l D h cI cJ cK cS row (nI 0) fnd tape tmany sort begs tends word valu good bits size shts lent imag befo kept (xs (i + 1)) _ hm) pk_yX10_paid ml_RL_95 ⟨rfl, rfl⟩ ⟨Nat.le_of_ble_eq_true rfl, Nat.le_of_ble_eq_true rfl⟩ ⟨Nat.le_of_ble_eq_true rfl, Nat.le_of_ble_eq_true rfl⟩ rfl rfl rfl rfl rfl (Nat.le_of_ble_eq_true rfl) rfl dL_law_748 rfl ?_
  refine sw_icmp_eq (tgt := 1399) (pc' := 754) cx dL_law_751 (by decide) rfl (fun _ => ?_) (fun hne => absurd rfl hne)
  exact K _ _ _ _ _ _ _ _ _ _ _ _ _ _ _ _ _ _ _ _ _ _ _ _ _ _ _ _ _ _ ⟨xRA, xRF, hR.2.2.1, hR.2.2.2.1, hR.2.2.2.2⟩
theorem cs_farthest (cx : sf_Cx p m meth c cL_law 4 s args RL D (sf_ty cI cJ cK cS) A) (X : LX s A b L xs i) (K : LG p l e s m args below meth c Q D A g m0 m1 m2 ka sa sn h cI cJ cK cS b i 1399) : LG p l e s m args below meth c Q D A g m0 m1 m2 ka sa sn h cI cJ cK cS b i 756 := by
  intro mu tr ke kp tby tlen ttok tsta tbeh tnum ttak sh fi row fnd tape tmany sort begs tends word valu good bits size shts lent imag befo kept hR
  obtain ⟨r, trq_n, fiq_n, rowq_n, fndq_n, hc, hm, xRA, xRF⟩ := op_farthest hR.1 hR.2.1 tr (xs (i + 1))
  refine sw_aload_n (pc' := 757) cx dL_law_756 rfl 2 rfl rfl ?_
  refine sw_scr (pc' := 762) cx X 1 (by decide) (by decide) dL_law_757 dL_law_758 dL_law_759 dL_law_760 dL_law_761 rfl ?_
  refine sw_callA (As := [.int (xs (i + 1))]) (rest := []) (pc' := 765) cx (k_X9_farthest l D g m0 m1 m2 ka sa sn cI cJ cK cS mu tr ke kp tby tlen ttok tsta tbeh tnum ttak sh fi (xs (i + 1)) _ hc) pk_yX9_farthest ml_RL_96 ⟨rfl, rfl⟩ ⟨Nat.le_of_ble_eq_true rfl, Nat.le_of_ble_eq_true rfl⟩ ⟨Nat.le_of_ble_eq_true rfl, Nat.le_of_ble_eq_true rfl⟩ sx_adr sx_0 rfl rfl rfl (Nat.le_of_ble_eq_true rfl) rfl dL_law_762 rfl ?_
  refine sw_aload_n (pc' := 766) cx dL_law_765 rfl 1 rfl rfl ?_
  refine sw_scr (pc' := 771) cx X 1 (by decide) (by decide) dL_law_766 dL_law_767 dL_law_768 dL_law_769 dL_law_770 rfl ?_
  refine sw_callB (As := [.int (xs (i + 1))]) (rest := [.int r]) (pc' := 774) cx (k_X10_farthest l D h cI cJ cK cS row (nI 0) fnd tape tmany sort begs tends word valu good bits size shts lent imag befo kept (xs (i + 1)) _ hm) pk_yX10_farthest ml_RL_99 ⟨rfl, rfl⟩ ⟨Nat.le_of_ble_eq_true rfl, Nat.le_of_ble_eq_true rfl⟩ ⟨Nat.le_of_ble_eq_true rfl, Nat.le_of_ble_eq_true rfl⟩ rfl rfl rfl rfl rfl (Nat.le_of_ble_eq_true rfl) rfl dL_law_771 rfl ?_
  refine sw_icmp_eq (tgt := 1399) (pc' := 777) cx dL_law_774 (by decide) rfl (fun _ => ?_) (fun hne => absurd rfl hne)
  exact K _ _ _ _ _ _ _ _ _ _ _ _ _ _ _ _ _ _ _ _ _ _ _ _ _ _ _ _ _ _ ⟨xRA, xRF, hR.2.2.1, hR.2.2.2.1, hR.2.2.2.2⟩
theorem cs_best (cx : sf_Cx p m meth c cL_law 4 s args RL D (sf_ty cI cJ cK cS) A) (X : LX s A b L xs i) (K : LG p l e s m args below meth c Q D A g m0 m1 m2 ka sa sn h cI cJ cK cS b i 1399) : LG p l e s m args below meth c Q D A g m0 m1 m2 ka sa sn h cI cJ cK cS b i 779 := by
  intro mu tr ke kp tby tlen ttok tsta tbeh tnum ttak sh fi row fnd tape tmany sort begs tends word valu good bits size shts lent imag befo kept hR
  obtain ⟨r, trq_n, fiq_n, rowq_n, fndq_n, hc, hm, xRA, xRF⟩ := op_best hR.1 hR.2.1 tr (xs (i + 1)) (xs (i + 2))
  refine sw_aload_n (pc' := 780) cx dL_law_779 rfl 2 rfl rfl ?_
  refine sw_scr (pc' := 785) cx X 1 (by decide) (by decide) dL_law_780 dL_law_781 dL_law_782 dL_law_783 dL_law_784 rfl ?_
  refine sw_scr (pc' := 790) cx X 2 (by decide) (by decide) dL_law_785 dL_law_786 dL_law_787 dL_law_788 dL_law_789 rfl ?_
  refine sw_callA (As := [.int (xs (i + 1)), .int (xs (i + 2))]) (rest := []) (pc' := 793) cx (k_X9_best l D g m0 m1 m2 ka sa sn cI cJ cK cS mu tr ke kp tby tlen ttok tsta tbeh tnum ttak sh fi (xs (i + 1)) (xs (i + 2)) _ hc) pk_yX9_best ml_RL_100 ⟨rfl, rfl⟩ ⟨Nat.le_of_ble_eq_true rfl, Nat.le_of_ble_eq_true rfl⟩ ⟨Nat.le_of_ble_eq_true rfl, Nat.le_of_ble_eq_true rfl⟩ sx_adr sx_0 rfl rfl rfl (Nat.le_of_ble_eq_true rfl) rfl dL_law_790 rfl ?_
  refine sw_aload_n (pc' := 794) cx dL_law_793 rfl 1 rfl rfl ?_
  refine sw_scr (pc' := 799) cx X 1 (by decide) (by decide) dL_law_794 dL_law_795 dL_law_796 dL_law_797 dL_law_798 rfl ?_
  refine sw_scr (pc' := 804) cx X 2 (by decide) (by decide) dL_law_799 dL_law_800 dL_law_801 dL_law_802 dL_law_803 rfl ?_
  refine sw_callB (As := [.int (xs (i + 1)), .int (xs (i + 2))]) (rest := [.int r]) (pc' := 807) cx (k_X10_best l D h cI cJ cK cS row (nI 0) fnd tape tmany sort begs tends word valu good bits size shts lent imag befo kept (xs (i + 1)) (xs (i + 2)) _ hm) pk_yX10_best ml_RL_103 ⟨rfl, rfl⟩ ⟨Nat.le_of_ble_eq_true rfl, Nat.le_of_ble_eq_true rfl⟩ ⟨Nat.le_of_ble_eq_true rfl, Nat.le_of_ble_eq_true rfl⟩ rfl rfl rfl rfl rfl (Nat.le_of_ble_eq_true rfl) rfl dL_law_804 rfl ?_
  refine sw_icmp_eq (tgt := 1399) (pc' := 810) cx dL_law_807 (by decide) rfl (fun _ => ?_) (fun hne => absurd rfl hne)
  exact K _ _ _ _ _ _ _ _ _ _ _ _ _ _ _ _ _ _ _ _ _ _ _ _ _ _ _ _ _ _ ⟨xRA, xRF, hR.2.2.1, hR.2.2.2.1, hR.2.2.2.2⟩
theorem cs_kind (cx : sf_Cx p m meth c cL_law 4 s args RL D (sf_ty cI cJ cK cS) A) (X : LX s A b L xs i) (K : LG p l e s m args below meth c Q D A g m0 m1 m2 ka sa sn h cI cJ cK cS b i 1399) : LG p l e s m args below meth c Q D A g m0 m1 m2 ka sa sn h cI cJ cK cS b i 812 := by
  intro mu tr ke kp tby tlen ttok tsta tbeh tnum ttak sh fi row fnd tape tmany sort begs tends word valu good bits size shts lent imag befo kept hR
  obtain ⟨r, trq_n, fiq_n, rowq_n, fndq_n, hc, hm, xRA, xRF⟩ := op_kind hR.1 hR.2.1 tr (xs (i + 1)) (xs (i + 2))
  refine sw_aload_n (pc' := 813) cx dL_law_812 rfl 2 rfl rfl ?_
  refine sw_scr (pc' := 818) cx X 1 (by decide) (by decide) dL_law_813 dL_law_814 dL_law_815 dL_law_816 dL_law_817 rfl ?_
  refine sw_scr (pc' := 823) cx X 2 (by decide) (by decide) dL_law_818 dL_law_819 dL_law_820 dL_law_821 dL_law_822 rfl ?_
  refine sw_callA (As := [.int (xs (i + 1)), .int (xs (i + 2))]) (rest := []) (pc' := 826) cx (k_X9_kind l D g m0 m1 m2 ka sa sn cI cJ cK cS mu tr ke kp tby tlen ttok tsta tbeh tnum ttak sh fi (xs (i + 1)) (xs (i + 2)) _ hc) pk_yX9_kind ml_RL_104 ⟨rfl, rfl⟩ ⟨Nat.le_of_ble_eq_true rfl, Nat.le_of_ble_eq_true rfl⟩ ⟨Nat.le_of_ble_eq_true rfl, Nat.le_of_ble_eq_true rfl⟩ sx_adr sx_0 rfl rfl rfl (Nat.le_of_ble_eq_true rfl) rfl dL_law_823 rfl ?_
  refine sw_aload_n (pc' := 827) cx dL_law_826 rfl 1 rfl rfl ?_
  refine sw_scr (pc' := 832) cx X 1 (by decide) (by decide) dL_law_827 dL_law_828 dL_law_829 dL_law_830 dL_law_831 rfl ?_
  refine sw_scr (pc' := 837) cx X 2 (by decide) (by decide) dL_law_832 dL_law_833 dL_law_834 dL_law_835 dL_law_836 rfl ?_
  refine sw_callB (As := [.int (xs (i + 1)), .int (xs (i + 2))]) (rest := [.int r]) (pc' := 840) cx (k_X10_kind l D h cI cJ cK cS row (nI 0) fnd tape tmany sort begs tends word valu good bits size shts lent imag befo kept (xs (i + 1)) (xs (i + 2)) _ hm) pk_yX10_kind ml_RL_107 ⟨rfl, rfl⟩ ⟨Nat.le_of_ble_eq_true rfl, Nat.le_of_ble_eq_true rfl⟩ ⟨Nat.le_of_ble_eq_true rfl, Nat.le_of_ble_eq_true rfl⟩ rfl rfl rfl rfl rfl (Nat.le_of_ble_eq_true rfl) rfl dL_law_837 rfl ?_
  refine sw_icmp_eq (tgt := 1399) (pc' := 843) cx dL_law_840 (by decide) rfl (fun _ => ?_) (fun hne => absurd rfl hne)
  exact K _ _ _ _ _ _ _ _ _ _ _ _ _ _ _ _ _ _ _ _ _ _ _ _ _ _ _ _ _ _ ⟨xRA, xRF, hR.2.2.1, hR.2.2.2.1, hR.2.2.2.2⟩
theorem cs_mend (cx : sf_Cx p m meth c cL_law 4 s args RL D (sf_ty cI cJ cK cS) A) (X : LX s A b L xs i) (K : LG p l e s m args below meth c Q D A g m0 m1 m2 ka sa sn h cI cJ cK cS b i 1399) : LG p l e s m args below meth c Q D A g m0 m1 m2 ka sa sn h cI cJ cK cS b i 845 := by
  intro mu tr ke kp tby tlen ttok tsta tbeh tnum ttak sh fi row fnd tape tmany sort begs tends word valu good bits size shts lent imag befo kept hR
  obtain ⟨r, trq_n, fiq_n, rowq_n, fndq_n, hc, hm, xRA, xRF⟩ := op_mend hR.1 hR.2.1 tr
  refine sw_aload_n (pc' := 846) cx dL_law_845 rfl 2 rfl rfl ?_
  refine sw_callA (As := []) (rest := []) (pc' := 849) cx (k_X9_mend l D g m0 m1 m2 ka sa sn cI cJ cK cS mu tr ke kp tby tlen ttok tsta tbeh tnum ttak sh fi  _ hc) pk_yX9_mend ml_RL_108 ⟨rfl, rfl⟩ ⟨Nat.le_of_ble_eq_true rfl, Nat.le_of_ble_eq_true rfl⟩ ⟨Nat.le_of_ble_eq_true rfl, Nat.le_of_ble_eq_true rfl⟩ sx_adr sx_0 rfl rfl rfl (Nat.le_of_ble_eq_true rfl) rfl dL_law_846 rfl ?_
  refine sw_aload_n (pc' := 850) cx dL_law_849 rfl 1 rfl rfl ?_
  refine sw_callB (As := []) (rest := [.int r]) (pc' := 853) cx (k_X10_mend l D h cI cJ cK cS row (nI 0) fnd tape tmany sort begs tends word valu good bits size shts lent imag befo kept  _ hm) pk_yX10_mend ml_RL_111 ⟨rfl, rfl⟩ ⟨Nat.le_of_ble_eq_true rfl, Nat.le_of_ble_eq_true rfl⟩ ⟨Nat.le_of_ble_eq_true rfl, Nat.le_of_ble_eq_true rfl⟩ rfl rfl rfl rfl rfl (Nat.le_of_ble_eq_true rfl) rfl dL_law_850 rfl ?_
  refine sw_icmp_eq (tgt := 1399) (pc' := 856) cx dL_law_853 (by decide) rfl (fun _ => ?_) (fun hne => absurd rfl hne)
  exact K _ _ _ _ _ _ _ _ _ _ _ _ _ _ _ _ _ _ _ _ _ _ _ _ _ _ _ _ _ _ ⟨xRA, xRF, hR.2.2.1, hR.2.2.2.1, hR.2.2.2.2⟩
theorem cs_needed (cx : sf_Cx p m meth c cL_law 4 s args RL D (sf_ty cI cJ cK cS) A) (X : LX s A b L xs i) (K : LG p l e s m args below meth c Q D A g m0 m1 m2 ka sa sn h cI cJ cK cS b i 1399) : LG p l e s m args below meth c Q D A g m0 m1 m2 ka sa sn h cI cJ cK cS b i 858 := by
  intro mu tr ke kp tby tlen ttok tsta tbeh tnum ttak sh fi row fnd tape tmany sort begs tends word valu good bits size shts lent imag befo kept hR
  obtain ⟨r, trq_n, fiq_n, rowq_n, fndq_n, hc, hm, xRA, xRF⟩ := op_needed hR.1 hR.2.1 tr (xs (i + 1))
  refine sw_aload_n (pc' := 859) cx dL_law_858 rfl 2 rfl rfl ?_
  refine sw_scr (pc' := 864) cx X 1 (by decide) (by decide) dL_law_859 dL_law_860 dL_law_861 dL_law_862 dL_law_863 rfl ?_
  refine sw_callA (As := [.int (xs (i + 1))]) (rest := []) (pc' := 867) cx (k_X9_needed l D g m0 m1 m2 ka sa sn cI cJ cK cS mu tr ke kp tby tlen ttok tsta tbeh tnum ttak sh fi (xs (i + 1)) _ hc) pk_yX9_needed ml_RL_112 ⟨rfl, rfl⟩ ⟨Nat.le_of_ble_eq_true rfl, Nat.le_of_ble_eq_true rfl⟩ ⟨Nat.le_of_ble_eq_true rfl, Nat.le_of_ble_eq_true rfl⟩ sx_adr sx_0 rfl rfl rfl (Nat.le_of_ble_eq_true rfl) rfl dL_law_864 rfl ?_
  refine sw_aload_n (pc' := 868) cx dL_law_867 rfl 1 rfl rfl ?_
  refine sw_scr (pc' := 873) cx X 1 (by decide) (by decide) dL_law_868 dL_law_869 dL_law_870 dL_law_871 dL_law_872 rfl ?_
  refine sw_callB (As := [.int (xs (i + 1))]) (rest := [.int r]) (pc' := 876) cx (k_X10_needed l D h cI cJ cK cS row (nI 0) fnd tape tmany sort begs tends word valu good bits size shts lent imag befo kept (xs (i + 1)) _ hm) pk_yX10_needed ml_RL_115 ⟨rfl, rfl⟩ ⟨Nat.le_of_ble_eq_true rfl, Nat.le_of_ble_eq_true rfl⟩ ⟨Nat.le_of_ble_eq_true rfl, Nat.le_of_ble_eq_true rfl⟩ rfl rfl rfl rfl rfl (Nat.le_of_ble_eq_true rfl) rfl dL_law_873 rfl ?_
  refine sw_icmp_eq (tgt := 1399) (pc' := 879) cx dL_law_876 (by decide) rfl (fun _ => ?_) (fun hne => absurd rfl hne)
  exact K _ _ _ _ _ _ _ _ _ _ _ _ _ _ _ _ _ _ _ _ _ _ _ _ _ _ _ _ _ _ ⟨xRA, xRF, hR.2.2.1, hR.2.2.2.1, hR.2.2.2.2⟩
theorem cs_steepest (cx : sf_Cx p m meth c cL_law 4 s args RL D (sf_ty cI cJ cK cS) A) (X : LX s A b L xs i) (K : LG p l e s m args below meth c Q D A g m0 m1 m2 ka sa sn h cI cJ cK cS b i 1399) : LG p l e s m args below meth c Q D A g m0 m1 m2 ka sa sn h cI cJ cK cS b i 881 := by
  intro mu tr ke kp tby tlen ttok tsta tbeh tnum ttak sh fi row fnd tape tmany sort begs tends word valu good bits size shts lent imag befo kept hR
  obtain ⟨r, fiq_n, fndq_n, hc, hm, xRF⟩ := op_steepest hR.1 hR.2.1
  refine sw_aload_n (pc' := 882) cx dL_law_881 rfl 2 rfl rfl ?_
  refine sw_callA (As := []) (rest := []) (pc' := 885) cx (k_X9_steepest l D g m0 m1 m2 ka sa sn cI cJ cK cS mu tr ke kp tby tlen ttok tsta tbeh tnum ttak sh fi  _ hc) pk_yX9_steepest ml_RL_116 ⟨rfl, rfl⟩ ⟨Nat.le_of_ble_eq_true rfl, Nat.le_of_ble_eq_true rfl⟩ ⟨Nat.le_of_ble_eq_true rfl, Nat.le_of_ble_eq_true rfl⟩ sx_adr sx_0 rfl rfl rfl (Nat.le_of_ble_eq_true rfl) rfl dL_law_882 rfl ?_
  refine sw_aload_n (pc' := 886) cx dL_law_885 rfl 1 rfl rfl ?_
  refine sw_callB (As := []) (rest := [.int r]) (pc' := 889) cx (k_X10_steepest l D h cI cJ cK cS row (nI 0) fnd tape tmany sort begs tends word valu good bits size shts lent imag befo kept  _ hm) pk_yX10_steepest ml_RL_119 ⟨rfl, rfl⟩ ⟨Nat.le_of_ble_eq_true rfl, Nat.le_of_ble_eq_true rfl⟩ ⟨Nat.le_of_ble_eq_true rfl, Nat.le_of_ble_eq_true rfl⟩ rfl rfl rfl rfl rfl (Nat.le_of_ble_eq_true rfl) rfl dL_law_886 rfl ?_
  refine sw_icmp_eq (tgt := 1399) (pc' := 892) cx dL_law_889 (by decide) rfl (fun _ => ?_) (fun hne => absurd rfl hne)
  exact K _ _ _ _ _ _ _ _ _ _ _ _ _ _ _ _ _ _ _ _ _ _ _ _ _ _ _ _ _ _ ⟨hR.1, xRF, hR.2.2.1, hR.2.2.2.1, hR.2.2.2.2⟩
theorem cs_whose (cx : sf_Cx p m meth c cL_law 4 s args RL D (sf_ty cI cJ cK cS) A) (X : LX s A b L xs i) (K : LG p l e s m args below meth c Q D A g m0 m1 m2 ka sa sn h cI cJ cK cS b i 1399) : LG p l e s m args below meth c Q D A g m0 m1 m2 ka sa sn h cI cJ cK cS b i 894 := by
  intro mu tr ke kp tby tlen ttok tsta tbeh tnum ttak sh fi row fnd tape tmany sort begs tends word valu good bits size shts lent imag befo kept hR
  obtain ⟨r, fiq_n, fndq_n, hc, hm, xRF⟩ := op_whose hR.1 hR.2.1 (xs (i + 1)) (xs (i + 2))
  refine sw_aload_n (pc' := 895) cx dL_law_894 rfl 2 rfl rfl ?_
  refine sw_scr (pc' := 900) cx X 1 (by decide) (by decide) dL_law_895 dL_law_896 dL_law_897 dL_law_898 dL_law_899 rfl ?_
  refine sw_scr (pc' := 905) cx X 2 (by decide) (by decide) dL_law_900 dL_law_901 dL_law_902 dL_law_903 dL_law_904 rfl ?_
  refine sw_callA (As := [.int (xs (i + 1)), .int (xs (i + 2))]) (rest := []) (pc' := 908) cx (k_X9_whose l D g m0 m1 m2 ka sa sn cI cJ cK cS mu tr ke kp tby tlen ttok tsta tbeh tnum ttak sh fi (xs (i + 1)) (xs (i + 2)) _ hc) pk_yX9_whose ml_RL_120 ⟨rfl, rfl⟩ ⟨Nat.le_of_ble_eq_true rfl, Nat.le_of_ble_eq_true rfl⟩ ⟨Nat.le_of_ble_eq_true rfl, Nat.le_of_ble_eq_true rfl⟩ sx_adr sx_0 rfl rfl rfl (Nat.le_of_ble_eq_true rfl) rfl dL_law_905 rfl ?_
  refine sw_aload_n (pc' := 909) cx dL_law_908 rfl 1 rfl rfl ?_
  refine sw_scr (pc' := 914) cx X 1 (by decide) (by decide) dL_law_909 dL_law_910 dL_law_911 dL_law_912 dL_law_913 rfl ?_
  refine sw_scr (pc' := 919) cx X 2 (by decide) (by decide) dL_law_914 dL_law_915 dL_law_916 dL_law_917 dL_law_918 rfl ?_
  refine sw_callB (As := [.int (xs (i + 1)), .int (xs (i + 2))]) (rest := [.int r]) (pc' := 922) cx (k_X10_whose l D h cI cJ cK cS row (nI 0) fnd tape tmany sort begs tends word valu good bits size shts lent imag befo kept (xs (i + 1)) (xs (i + 2)) _ hm) pk_yX10_whose ml_RL_123 ⟨rfl, rfl⟩ ⟨Nat.le_of_ble_eq_true rfl, Nat.le_of_ble_eq_true rfl⟩ ⟨Nat.le_of_ble_eq_true rfl, Nat.le_of_ble_eq_true rfl⟩ rfl rfl rfl rfl rfl (Nat.le_of_ble_eq_true rfl) rfl dL_law_919 rfl ?_
  refine sw_icmp_eq (tgt := 1399) (pc' := 925) cx dL_law_922 (by decide) rfl (fun _ => ?_) (fun hne => absurd rfl hne)
  exact K _ _ _ _ _ _ _ _ _ _ _ _ _ _ _ _ _ _ _ _ _ _ _ _ _ _ _ _ _ _ ⟨hR.1, xRF, hR.2.2.1, hR.2.2.2.1, hR.2.2.2.2⟩
theorem cs_bears (cx : sf_Cx p m meth c cL_law 4 s args RL D (sf_ty cI cJ cK cS) A) (X : LX s A b L xs i) (K : LG p l e s m args below meth c Q D A g m0 m1 m2 ka sa sn h cI cJ cK cS b i 1399) : LG p l e s m args below meth c Q D A g m0 m1 m2 ka sa sn h cI cJ cK cS b i 927 := by
  intro mu tr ke kp tby tlen ttok tsta tbeh tnum ttak sh fi row fnd tape tmany sort begs tends word valu good bits size shts lent imag befo kept hR
  obtain ⟨r, trq_n, fiq_n, rowq_n, fndq_n, hc, hm, xRA, xRF⟩ := op_bears hR.1 hR.2.1 tr (xs (i + 1))
  refine sw_aload_n (pc' := 928) cx dL_law_927 rfl 2 rfl rfl ?_
  refine sw_scr (pc' := 933) cx X 1 (by decide) (by decide) dL_law_928 dL_law_929 dL_law_930 dL_law_931 dL_law_932 rfl ?_
  refine sw_callA (As := [.int (xs (i + 1))]) (rest := []) (pc' := 936) cx (k_X9_bears l D g m0 m1 m2 ka sa sn cI cJ cK cS mu tr ke kp tby tlen ttok tsta tbeh tnum ttak sh fi (xs (i + 1)) _ hc) pk_yX9_bears ml_RL_124 ⟨rfl, rfl⟩ ⟨Nat.le_of_ble_eq_true rfl, Nat.le_of_ble_eq_true rfl⟩ ⟨Nat.le_of_ble_eq_true rfl, Nat.le_of_ble_eq_true rfl⟩ sx_adr sx_0 rfl rfl rfl (Nat.le_of_ble_eq_true rfl) rfl dL_law_933 rfl ?_
  refine sw_aload_n (pc' := 937) cx dL_law_936 rfl 1 rfl rfl ?_
  refine sw_scr (pc' := 942) cx X 1 (by decide) (by decide) dL_law_937 dL_law_938 dL_law_939 dL_law_940 dL_law_941 rfl ?_
  refine sw_callB (As := [.int (xs (i + 1))]) (rest := [.int r]) (pc' := 945) cx (k_X10_bears l D h cI cJ cK cS row (nI 0) fnd tape tmany sort begs tends word valu good bits size shts lent imag befo kept (xs (i + 1)) _ hm) pk_yX10_bears ml_RL_127 ⟨rfl, rfl⟩ ⟨Nat.le_of_ble_eq_true rfl, Nat.le_of_ble_eq_true rfl⟩ ⟨Nat.le_of_ble_eq_true rfl, Nat.le_of_ble_eq_true rfl⟩ rfl rfl rfl rfl rfl (Nat.le_of_ble_eq_true rfl) rfl dL_law_942 rfl ?_
  refine sw_icmp_eq (tgt := 1399) (pc' := 948) cx dL_law_945 (by decide) rfl (fun _ => ?_) (fun hne => absurd rfl hne)
  exact K _ _ _ _ _ _ _ _ _ _ _ _ _ _ _ _ _ _ _ _ _ _ _ _ _ _ _ _ _ _ ⟨xRA, xRF, hR.2.2.1, hR.2.2.2.1, hR.2.2.2.2⟩
theorem cs_meetsFor (cx : sf_Cx p m meth c cL_law 4 s args RL D (sf_ty cI cJ cK cS) A) (X : LX s A b L xs i) (K : LG p l e s m args below meth c Q D A g m0 m1 m2 ka sa sn h cI cJ cK cS b i 1399) : LG p l e s m args below meth c Q D A g m0 m1 m2 ka sa sn h cI cJ cK cS b i 950 := by
  intro mu tr ke kp tby tlen ttok tsta tbeh tnum ttak sh fi row fnd tape tmany sort begs tends word valu good bits size shts lent imag befo kept hR
  obtain ⟨r, fiq_n, rowq_n, fndq_n, hc, hm, xRA, xRF⟩ := op_meetsFor hR.1 hR.2.1 (xs (i + 1))
  refine sw_aload_n (pc' := 951) cx dL_law_950 rfl 2 rfl rfl ?_
  refine sw_scr (pc' := 956) cx X 1 (by decide) (by decide) dL_law_951 dL_law_952 dL_law_953 dL_law_954 dL_law_955 rfl ?_
  refine sw_callA (As := [.int (xs (i + 1))]) (rest := []) (pc' := 959) cx (k_X9_meetsFor l D g m0 m1 m2 ka sa sn cI cJ cK cS mu tr ke kp tby tlen ttok tsta tbeh tnum ttak sh fi (xs (i + 1)) _ hc) pk_yX9_meetsFor ml_RL_128 ⟨rfl, rfl⟩ ⟨Nat.le_of_ble_eq_true rfl, Nat.le_of_ble_eq_true rfl⟩ ⟨Nat.le_of_ble_eq_true rfl, Nat.le_of_ble_eq_true rfl⟩ sx_adr sx_0 rfl rfl rfl (Nat.le_of_ble_eq_true rfl) rfl dL_law_956 rfl ?_
  refine sw_aload_n (pc' := 960) cx dL_law_959 rfl 1 rfl rfl ?_
  refine sw_scr (pc' := 965) cx X 1 (by decide) (by decide) dL_law_960 dL_law_961 dL_law_962 dL_law_963 dL_law_964 rfl ?_
  refine sw_callB (As := [.int (xs (i + 1))]) (rest := [.int r]) (pc' := 968) cx (k_X10_meetsFor l D h cI cJ cK cS row (nI 0) fnd tape tmany sort begs tends word valu good bits size shts lent imag befo kept (xs (i + 1)) _ hm) pk_yX10_meetsFor ml_RL_131 ⟨rfl, rfl⟩ ⟨Nat.le_of_ble_eq_true rfl, Nat.le_of_ble_eq_true rfl⟩ ⟨Nat.le_of_ble_eq_true rfl, Nat.le_of_ble_eq_true rfl⟩ rfl rfl rfl rfl rfl (Nat.le_of_ble_eq_true rfl) rfl dL_law_965 rfl ?_
  refine sw_icmp_eq (tgt := 1399) (pc' := 971) cx dL_law_968 (by decide) rfl (fun _ => ?_) (fun hne => absurd rfl hne)
  exact K _ _ _ _ _ _ _ _ _ _ _ _ _ _ _ _ _ _ _ _ _ _ _ _ _ _ _ _ _ _ ⟨xRA, xRF, hR.2.2.1, hR.2.2.2.1, hR.2.2.2.2⟩
theorem cs_alone (cx : sf_Cx p m meth c cL_law 4 s args RL D (sf_ty cI cJ cK cS) A) (X : LX s A b L xs i) (K : LG p l e s m args below meth c Q D A g m0 m1 m2 ka sa sn h cI cJ cK cS b i 1399) : LG p l e s m args below meth c Q D A g m0 m1 m2 ka sa sn h cI cJ cK cS b i 973 := by
  intro mu tr ke kp tby tlen ttok tsta tbeh tnum ttak sh fi row fnd tape tmany sort begs tends word valu good bits size shts lent imag befo kept hR
  obtain ⟨r, fiq_n, fndq_n, hc, hm, xRF⟩ := op_alone hR.1 hR.2.1 (xs (i + 1))
  refine sw_aload_n (pc' := 974) cx dL_law_973 rfl 2 rfl rfl ?_
  refine sw_scr (pc' := 979) cx X 1 (by decide) (by decide) dL_law_974 dL_law_975 dL_law_976 dL_law_977 dL_law_978 rfl ?_
  refine sw_callA (As := [.int (xs (i + 1))]) (rest := []) (pc' := 982) cx (k_X9_alone l D g m0 m1 m2 ka sa sn cI cJ cK cS mu tr ke kp tby tlen ttok tsta tbeh tnum ttak sh fi (xs (i + 1)) _ hc) pk_yX9_alone ml_RL_132 ⟨rfl, rfl⟩ ⟨Nat.le_of_ble_eq_true rfl, Nat.le_of_ble_eq_true rfl⟩ ⟨Nat.le_of_ble_eq_true rfl, Nat.le_of_ble_eq_true rfl⟩ sx_adr sx_0 rfl rfl rfl (Nat.le_of_ble_eq_true rfl) rfl dL_law_979 rfl ?_
  refine sw_aload_n (pc' := 983) cx dL_law_982 rfl 1 rfl rfl ?_
  refine sw_scr (pc' := 988) cx X 1 (by decide) (by decide) dL_law_983 dL_law_984 dL_law_985 dL_law_986 dL_law_987 rfl ?_
  refine sw_callB (As := [.int (xs (i + 1))]) (rest := [.int r]) (pc' := 991) cx (k_X10_alone l D h cI cJ cK cS row (nI 0) fnd tape tmany sort begs tends word valu good bits size shts lent imag befo kept (xs (i + 1)) _ hm) pk_yX10_alone ml_RL_135 ⟨rfl, rfl⟩ ⟨Nat.le_of_ble_eq_true rfl, Nat.le_of_ble_eq_true rfl⟩ ⟨Nat.le_of_ble_eq_true rfl, Nat.le_of_ble_eq_true rfl⟩ rfl rfl rfl rfl rfl (Nat.le_of_ble_eq_true rfl) rfl dL_law_988 rfl ?_
  refine sw_icmp_eq (tgt := 1399) (pc' := 994) cx dL_law_991 (by decide) rfl (fun _ => ?_) (fun hne => absurd rfl hne)
  exact K _ _ _ _ _ _ _ _ _ _ _ _ _ _ _ _ _ _ _ _ _ _ _ _ _ _ _ _ _ _ ⟨hR.1, xRF, hR.2.2.1, hR.2.2.2.1, hR.2.2.2.2⟩
theorem cs_feed (cx : sf_Cx p m meth c cL_law 4 s args RL D (sf_ty cI cJ cK cS) A) (X : LX s A b L xs i) (K : LG p l e s m args below meth c Q D A g m0 m1 m2 ka sa sn h cI cJ cK cS b i 1399) : LG p l e s m args below meth c Q D A g m0 m1 m2 ka sa sn h cI cJ cK cS b i 996 := by
  intro mu tr ke kp tby tlen ttok tsta tbeh tnum ttak sh fi row fnd tape tmany sort begs tends word valu good bits size shts lent imag befo kept hR
  obtain ⟨r, tbyq_n, tlenq_n, fiq_n, fndq_n, tapeq_n, tmanyq_n, hc, hm, xRT, xRF⟩ := op_feed hR.2.1 hR.2.2.2.1 (xs (i + 1)) (xs (i + 2))
  refine sw_aload_n (pc' := 997) cx dL_law_996 rfl 2 rfl rfl ?_
  refine sw_scr (pc' := 1002) cx X 1 (by decide) (by decide) dL_law_997 dL_law_998 dL_law_999 dL_law_1000 dL_law_1001 rfl ?_
  refine sw_scr (pc' := 1007) cx X 2 (by decide) (by decide) dL_law_1002 dL_law_1003 dL_law_1004 dL_law_1005 dL_law_1006 rfl ?_
  refine sw_callA (As := [.int (xs (i + 1)), .int (xs (i + 2))]) (rest := []) (pc' := 1010) cx (k_X9_feed l D g m0 m1 m2 ka sa sn cI cJ cK cS mu tr ke kp tby tlen ttok tsta tbeh tnum ttak sh fi (xs (i + 1)) (xs (i + 2)) _ hc) pk_yX9_feed ml_RL_136 ⟨rfl, rfl⟩ ⟨Nat.le_of_ble_eq_true rfl, Nat.le_of_ble_eq_true rfl⟩ ⟨Nat.le_of_ble_eq_true rfl, Nat.le_of_ble_eq_true rfl⟩ sx_adr sx_0 rfl rfl rfl (Nat.le_of_ble_eq_true rfl) rfl dL_law_1007 rfl ?_
  refine sw_aload_n (pc' := 1011) cx dL_law_1010 rfl 1 rfl rfl ?_
  refine sw_scr (pc' := 1016) cx X 1 (by decide) (by decide) dL_law_1011 dL_law_1012 dL_law_1013 dL_law_1014 dL_law_1015 rfl ?_
  refine sw_scr (pc' := 1021) cx X 2 (by decide) (by decide) dL_law_1016 dL_law_1017 dL_law_1018 dL_law_1019 dL_law_1020 rfl ?_
  refine sw_callB (As := [.int (xs (i + 1)), .int (xs (i + 2))]) (rest := [.int r]) (pc' := 1024) cx (k_X10_feed l D h cI cJ cK cS row (nI 0) fnd tape tmany sort begs tends word valu good bits size shts lent imag befo kept (xs (i + 1)) (xs (i + 2)) _ hm) pk_yX10_feed ml_RL_139 ⟨rfl, rfl⟩ ⟨Nat.le_of_ble_eq_true rfl, Nat.le_of_ble_eq_true rfl⟩ ⟨Nat.le_of_ble_eq_true rfl, Nat.le_of_ble_eq_true rfl⟩ rfl rfl rfl rfl rfl (Nat.le_of_ble_eq_true rfl) rfl dL_law_1021 rfl ?_
  refine sw_icmp_eq (tgt := 1399) (pc' := 1027) cx dL_law_1024 (by decide) rfl (fun _ => ?_) (fun hne => absurd rfl hne)
  exact K _ _ _ _ _ _ _ _ _ _ _ _ _ _ _ _ _ _ _ _ _ _ _ _ _ _ _ _ _ _ ⟨hR.1, xRF, hR.2.2.1, xRT, hR.2.2.2.2⟩
end LC
