/-! constructors: Sheet, Tape -/
abbrev rm_S : Room := ({ frames := 1, cells := 1, slots := 40, locals := 12 } : Room)
theorem n_X7 (l : Launch) (D : sf_D) (cI cJ cK cS : ClassId) (b : Nat) : sf_Cn l yX7_init cX7_init 1 rm_S D (sf_ty cI cJ cK cS) [.ref b] [(b, .inr (7, [.null, .int 0, .int 0]))] (fun w => ∃ q, w = [(b, .inr (7, [.ref q, .int 0, .int 0])), (q, .inl (cJ, 40, .inr (.inl (fun _ => 0))))]) 1 40 := by
  refine sf_metN (lv := [(0, .ref b)]) (by decide) (Nat.le_of_ble_eq_true rfl) rfl ?_
  intro p e s m args below meth c A Q cx hr hnm hQ
  have cx : sf_Cx p m meth c cX7_init 1 s args RX7 D (sf_ty cI cJ cK cS) A := cx
  refine sw_aload_n (pc' := 1) cx dX7_init_0 rfl 0 rfl rfl ?_
  refine sw_objI (pc' := 4) cx ml_RX7_3 inst_objectInit code_objectInit (by decide) (by decide) dX7_init_1 rfl ?_
  refine sw_aload_n (pc' := 5) cx dX7_init_4 rfl 0 rfl rfl ?_
  refine sw_bipush (pc' := 7) cx dX7_init_5 rfl rfl ?_
  refine sw_newL (pc' := 9) cx arc_long (cJ := cJ) 1 rfl (N' := 40) (by decide) (by decide) (by decide) ⟨by decide, by decide⟩ dX7_init_7 rfl (fun q => ?_)
  refine sw_putF (pc' := 12) (ws' := [(b, .inr (7, [.ref q, .int 0, .int 0])), (q, .inl (cJ, 40, .inr (.inl (fun _ => 0))))]) cx hnm in_X7 tyX7 tyX7_ok nmX7 0 rfl rfl 0 (Nat.le_of_ble_eq_true rfl) fl_RX7_9 rfl rfl rfl rfl (Nat.le_of_ble_eq_true rfl) dX7_init_9 rfl rfl ?_
  exact sw_vretN cx hr hQ ⟨q, rfl⟩ dX7_init_12
