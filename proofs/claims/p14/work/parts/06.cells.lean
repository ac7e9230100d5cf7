/-! ===== rows that read and write cells, over Sim ===== -/
def mCls (c : Nat) (C : String) (T : u_T) : Prop := mCl[c]? = some (C, T, mNs c) ∧ (∀ w ∈ u_ws C T (mNs c), w ∈ mTb) ∧ (∀ a, a < mNs c → ∀ b, b < mNs c → a ≠ b → (T a).2.1 ≠ (T b).2.1) ∧ ∀ k, k < mNs c → parseFieldDescriptor (T k).2.2.1 = some (mTy c k)
theorem va_P_one {D : va_G} {cl : List vw_C} {q : Nat × va_E} {H : Heap} (h : va_at D cl q H) : va_P D cl [q] H := fun k r hk => by
  match k, hk with
  | 0, hk => cases hk; exact h
  | k + 1, hk => simp at hk
theorem mFs_at {G : mG} {h : mH} {t i c k : Nat} (hk : k < mNs c) : (mFs G h t i c)[k]? = some (mSl G h t i k (mTy c k)) := by
  unfold mFs
  rw [List.getElem?_map, List.getElem?_range hk]
  rfl
theorem mAr_int {G : mG} {h : mH} {t i : Nat} : mAr G h t i .int = .inl (h.1 t i) := by simp [mAr, mIsRf]
theorem mAr_bool {G : mG} {h : mH} {t i : Nat} : mAr G h t i .boolean = .inl (h.1 t i) := by simp [mAr, mIsRf]
theorem mAr_long {G : mG} {h : mH} {t i : Nat} : mAr G h t i .long = .inr (.inl (h.2 t i)) := by simp [mAr, mIsRf]
theorem mAr_ref {G : mG} {h : mH} {t i : Nat} {ty : FieldType} (hy : mIsRf ty = true) : mAr G h t i ty = .inr (.inr (.inr (.inr fun k => (mRf t i k).map (mAd G)))) := by simp [mAr, hy]
theorem mE_obj {G : mG} {h : mH} {t i c : Nat} (hs : mSh t = .inl c) : mE G h t i = .inr (c, mFs G h t i c) := by simp [mE, hs]
theorem mE_arr {G : mG} {h : mH} {t i n : Nat} {ty : FieldType} (hs : mSh t = .inr (ty, n)) : mE G h t i = .inl (G.2.1 ty, n, mAr G h t i ty) := by simp [mE, hs]
theorem mLi_ref {t i : Nat} (h : mLi (.inr (.inr (t, i)))) (h9 : t ≠ 99) : i < mCn t := h.resolve_right h9
section MC
variable {α : Type} {G : mG} {X : mX} {cc : ByteArray} {nL : Nat} {own : String} {rt : Option FieldType} {rm : Room} {em : α → mRes} {f : Option α} {pc : Nat} {L : List (Nat × mV)} {st : List mV} {h : mH}
theorem s_geti {C : String} {T : u_T} {t i c k idx : Nat} (hc : mCls c C T) (hs : mSh t = .inl c) (h9 : t ≠ 99) (hk : k < mNs c) (hy : mIsRf (mTy c k) = false) (hnl : mTy c k ≠ .long) (hw1 : Cond.fieldLink own idx (T k).1 (T k).2.1 (T k).2.2.1 ∈ mTb) (hd : decode cc pc = .ok (.getfield idx, 3))
    (kk : Sim G X cc nL own rt rm em f (pc + 3) L (.inl (h.1 t i k) :: st) h) : Sim G X cc nL own rt rm em f pc L (.inr (.inr (t, i)) :: st) h := by
  intro a ha
  have kk := kk a ha
  obtain ⟨p, l, e, R, s, m, args, below, meth, c0, nc, ns, QQ⟩ := X
  intro F H locs ls hw hS hl hL hst
  obtain ⟨hx, hb, hml, hown, hts, hr, hlk, hK, hrm, hnc, hQQ⟩ := id F
  have hi := mLi_ref (hst _ List.mem_cons_self) h9
  have hat := hw.1 t i hi
  rw [mE_obj hs] at hat
  have hv : (mFs G h t i c)[k]? = some (.int (h.1 t i k)) := by
    rw [mFs_at hk, mSl, hy, if_neg (by decide), if_neg hnl]
  exact va_get hx hb hts hc.2.1 hown hK.1 (va_P_one hat) 0 rfl hc.1 k hk (hts _ hw1) (fun _ q => q) hv hd (kk F H locs ls hw hS hl hL (fun w hq => by
    rcases List.mem_cons.mp hq with rfl | hq
    · exact trivial
    · exact hst w (List.mem_cons_of_mem _ hq)))
theorem s_getj {C : String} {T : u_T} {t i c k idx : Nat} (hc : mCls c C T) (hs : mSh t = .inl c) (h9 : t ≠ 99) (hk : k < mNs c) (hy : mTy c k = .long) (hw1 : Cond.fieldLink own idx (T k).1 (T k).2.1 (T k).2.2.1 ∈ mTb) (hd : decode cc pc = .ok (.getfield idx, 3))
    (kk : Sim G X cc nL own rt rm em f (pc + 3) L (.inr (.inl (h.2 t i k)) :: st) h) : Sim G X cc nL own rt rm em f pc L (.inr (.inr (t, i)) :: st) h := by
  intro a ha
  have kk := kk a ha
  obtain ⟨p, l, e, R, s, m, args, below, meth, c0, nc, ns, QQ⟩ := X
  intro F H locs ls hw hS hl hL hst
  obtain ⟨hx, hb, hml, hown, hts, hr, hlk, hK, hrm, hnc, hQQ⟩ := id F
  have hi := mLi_ref (hst _ List.mem_cons_self) h9
  have hat := hw.1 t i hi
  rw [mE_obj hs] at hat
  have hv : (mFs G h t i c)[k]? = some (.long (h.2 t i k)) := by
    rw [mFs_at hk, mSl, hy]
    rfl
  exact va_get hx hb hts hc.2.1 hown hK.1 (va_P_one hat) 0 rfl hc.1 k hk (hts _ hw1) (fun _ q => q) hv hd (kk F H locs ls hw hS hl hL (fun w hq => by
    rcases List.mem_cons.mp hq with rfl | hq
    · exact trivial
    · exact hst w (List.mem_cons_of_mem _ hq)))
theorem s_getr {C : String} {T : u_T} {t i c k idx : Nat} {r : mR} (hc : mCls c C T) (hs : mSh t = .inl c) (h9 : t ≠ 99) (hk : k < mNs c) (hy : mIsRf (mTy c k) = true) (hw1 : Cond.fieldLink own idx (T k).1 (T k).2.1 (T k).2.2.1 ∈ mTb) (hrf : mRf t i k = some r) (hlr : i < mCn t → r.2 < mCn r.1) (hd : decode cc pc = .ok (.getfield idx, 3))
    (kk : Sim G X cc nL own rt rm em f (pc + 3) L (.inr (.inr r) :: st) h) : Sim G X cc nL own rt rm em f pc L (.inr (.inr (t, i)) :: st) h := by
  intro a ha
  have kk := kk a ha
  obtain ⟨p, l, e, R, s, m, args, below, meth, c0, nc, ns, QQ⟩ := X
  intro F H locs ls hw hS hl hL hst
  obtain ⟨hx, hb, hml, hown, hts, hr, hlk, hK, hrm, hnc, hQQ⟩ := id F
  have hi := mLi_ref (hst _ List.mem_cons_self) h9
  have hat := hw.1 t i hi
  rw [mE_obj hs] at hat
  have hv : (mFs G h t i c)[k]? = some (.ref (mAd G r)) := by
    rw [mFs_at hk, mSl, hy, hrf]
    rfl
  exact va_get hx hb hts hc.2.1 hown hK.1 (va_P_one hat) 0 rfl hc.1 k hk (hts _ hw1) (fun _ q => q) hv hd (kk F H locs ls hw hS hl hL (fun w hq => by
    rcases List.mem_cons.mp hq with rfl | hq
    · exact Or.inl (hlr hi)
    · exact hst w (List.mem_cons_of_mem _ hq)))
/-- an int, or a boolean that is one, into a field -/
theorem s_puti {C : String} {T : u_T} {t i c k idx : Nat} {x : Int32} {ty : FieldType} (hc : mCls c C T) (hs : mSh t = .inl c) (h9 : t ≠ 99) (hk : k < mNs c) (hy : mTy c k = ty) (hnr : mIsRf ty = false) (hnl : ty ≠ .long) (hn : narrow ty (.int x) = .int x) (hfit : fits ty (.int x) = true) (hfin : (T k).2.2.2 = false) (hw1 : Cond.fieldLink own idx (T k).1 (T k).2.1 (T k).2.2.1 ∈ mTb) (hd : decode cc pc = .ok (.putfield idx, 3))
    (kk : Sim G X cc nL own rt rm em f (pc + 3) L st (uI h t i k x)) : Sim G X cc nL own rt rm em f pc L (.inl x :: .inr (.inr (t, i)) :: st) h := by
  intro a ha
  have kk := kk a ha
  obtain ⟨p, l, e, R, s, m, args, below, meth, c0, nc, ns, QQ⟩ := X
  intro F H locs ls hw hS hl hL hst
  obtain ⟨hx, hb, hml, hown, hts, hr, hlk, hK, hrm, hnc, hQQ⟩ := id F
  have hi := mLi_ref (hst _ (List.mem_cons_of_mem _ List.mem_cons_self)) h9
  have hat := hw.1 t i hi
  rw [mE_obj hs] at hat
  obtain ⟨hcl, hin, hnm, hty⟩ := hc
  have hap := va_apart (own := own) hts hin (mTy c) hty hnm hK.1 hcl
  obtain ⟨r, h1, cell, q1, q2, q3, q4⟩ := hat
  have hr2 : r = (C, T, mNs c) := Option.some.inj (h1.symm.trans hcl)
  subst hr2
  obtain ⟨hSl, hfc, kC, hkC, hkind⟩ := hK.1.1 c _ hcl
  obtain ⟨cf, kf, fi, fl, hi2, hsl⟩ := hSl k hk
  have hlay := hts _ (hin _ (u_in_lay hk))
  unfold u_lay at hlay
  rw [if_neg (by rw [hfin]; decide)] at hlay
  have hstt := (u_facts hfc hkC (u_lays hts hin hk) hi2).1
  have hdty : parseFieldDescriptor (T k).2.2.1 = some ty := by rw [hty k hk, hy]
  have h6 := u_store hfc hkC hkind hlay hi2 hdty hn hfit
  refine W.putK hx hb (f := fl) ⟨hown, hts _ hw1, ⟨_, _, _, hi2⟩, hstt⟩ (by rw [q2]; exact h6) q1 q3 (by rw [hsl]; exact k2_hasslot (q4 k hk)) rfl rfl hd fun H' e1 e2 e3 => ?_
  rw [hsl] at e1 ⊢
  have hw' : mW G (uI h t i k x) H' := by
    refine hw.upd hi ?_ e3 (fun t' i' e => mE_ne (uI_ne e) rfl)
    rw [mE_obj hs]
    refine ⟨_, hcl, t_OB.to (V := updV (vp_V (mFs G h t i c)) k (.int x)) ⟨_, e1, q2, q3, t_set q4 hap hk _⟩ (fun j hj => ?_)⟩
    have hj : j < mNs c := hj
    have a1 : vp_V (mFs G h t i c) j = mSl G h t i j (mTy c j) := by simp [vp_V, mFs_at hj]
    have a2 : vp_V (mFs G (uI h t i k x) t i c) j = mSl G (uI h t i k x) t i j (mTy c j) := by simp [vp_V, mFs_at hj]
    rw [a2]
    by_cases e : j = k
    · subst e
      rw [hy]
      simp [updV, mSl, hnr, hnl, uI_eq, upd]
    · show (if j = k then _ else vp_V (mFs G h t i c) j) = _
      rw [if_neg e, a1]
      have e2 : (uI h t i k x).2 = h.2 := rfl
      simp [mSl, uI_eq, upd, e, e2]
  exact kk F H' _ ls hw' (hS.put e2 e3 (hw.2.2 t i hi)) hl hL (fun w hq => hst w (List.mem_cons_of_mem _ (List.mem_cons_of_mem _ hq)))
/-- a long into a field -/
theorem s_putj {C : String} {T : u_T} {t i c k idx : Nat} {x : Int64} (hc : mCls c C T) (hs : mSh t = .inl c) (h9 : t ≠ 99) (hk : k < mNs c) (hy : mTy c k = .long) (hfin : (T k).2.2.2 = false) (hw1 : Cond.fieldLink own idx (T k).1 (T k).2.1 (T k).2.2.1 ∈ mTb) (hd : decode cc pc = .ok (.putfield idx, 3))
    (kk : Sim G X cc nL own rt rm em f (pc + 3) L st (uJ h t i k x)) : Sim G X cc nL own rt rm em f pc L (.inr (.inl x) :: .inr (.inr (t, i)) :: st) h := by
  intro a ha
  have kk := kk a ha
  obtain ⟨p, l, e, R, s, m, args, below, meth, c0, nc, ns, QQ⟩ := X
  intro F H locs ls hw hS hl hL hst
  obtain ⟨hx, hb, hml, hown, hts, hr, hlk, hK, hrm, hnc, hQQ⟩ := id F
  have hi := mLi_ref (hst _ (List.mem_cons_of_mem _ List.mem_cons_self)) h9
  have hat := hw.1 t i hi
  rw [mE_obj hs] at hat
  obtain ⟨hcl, hin, hnm, hty⟩ := hc
  have hap := va_apart (own := own) hts hin (mTy c) hty hnm hK.1 hcl
  obtain ⟨r, h1, cell, q1, q2, q3, q4⟩ := hat
  have hr2 : r = (C, T, mNs c) := Option.some.inj (h1.symm.trans hcl)
  subst hr2
  obtain ⟨hSl, hfc, kC, hkC, hkind⟩ := hK.1.1 c _ hcl
  obtain ⟨cf, kf, fi, fl, hi2, hsl⟩ := hSl k hk
  have hlay := hts _ (hin _ (u_in_lay hk))
  unfold u_lay at hlay
  rw [if_neg (by rw [hfin]; decide)] at hlay
  have hstt := (u_facts hfc hkC (u_lays hts hin hk) hi2).1
  have hdty : parseFieldDescriptor (T k).2.2.1 = some .long := by rw [hty k hk, hy]
  have h6 := u_store hfc hkC hkind hlay hi2 hdty (v := .long x) rfl rfl
  refine W.putK hx hb (f := fl) ⟨hown, hts _ hw1, ⟨_, _, _, hi2⟩, hstt⟩ (by rw [q2]; exact h6) q1 q3 (by rw [hsl]; exact k2_hasslot (q4 k hk)) rfl rfl hd fun H' e1 e2 e3 => ?_
  rw [hsl] at e1 ⊢
  have hw' : mW G (uJ h t i k x) H' := by
    refine hw.upd hi ?_ e3 (fun t' i' e => mE_ne rfl (uJ_ne e))
    rw [mE_obj hs]
    refine ⟨_, hcl, t_OB.to (V := updV (vp_V (mFs G h t i c)) k (.long x)) ⟨_, e1, q2, q3, t_set q4 hap hk _⟩ (fun j hj => ?_)⟩
    have hj : j < mNs c := hj
    have a1 : vp_V (mFs G h t i c) j = mSl G h t i j (mTy c j) := by simp [vp_V, mFs_at hj]
    have a2 : vp_V (mFs G (uJ h t i k x) t i c) j = mSl G (uJ h t i k x) t i j (mTy c j) := by simp [vp_V, mFs_at hj]
    rw [a2]
    by_cases e : j = k
    · subst e
      rw [hy]
      simp [updV, mSl, mIsRf, uJ]
    · show (if j = k then _ else vp_V (mFs G h t i c) j) = _
      rw [if_neg e, a1]
      have e1 : (uJ h t i k x).1 = h.1 := rfl
      have e2 : (uJ h t i k x).2 t i j = h.2 t i j := if_neg (fun z => e z.2.2)
      simp only [mSl, e1, e2]
  exact kk F H' _ ls hw' (hS.put e2 e3 (hw.2.2 t i hi)) hl hL (fun w hq => hst w (List.mem_cons_of_mem _ (List.mem_cons_of_mem _ hq)))
theorem s_iaload {t i n : Nat} {x : Int32} (hs : mSh t = .inr (.int, n)) (h9 : t ≠ 99) (hin : mIn x n = true) (hd : decode cc pc = .ok (.iaload, 1))
    (kk : Sim G X cc nL own rt rm em f (pc + 1) L (.inl (h.1 t i x.toNatClampNeg) :: st) h) : Sim G X cc nL own rt rm em f pc L (.inl x :: .inr (.inr (t, i)) :: st) h := by
  intro a ha
  have kk := kk a ha
  obtain ⟨p, l, e, R, s, m, args, below, meth, c0, nc, ns, QQ⟩ := X
  intro F H locs ls hw hS hl hL hst
  obtain ⟨hx, hb, hml, hown, hts, hr, hlk, hK, hrm, hnc, hQQ⟩ := id F
  have hi := mLi_ref (hst _ (List.mem_cons_of_mem _ List.mem_cons_self)) h9
  have hat := hw.1 t i hi
  rw [mE_arr hs, mAr_int] at hat
  exact va_iald hx hb hK.1 (va_P_one hat) 0 0 rfl rfl (mIn_vp hin) hd (kk F H locs ls hw hS hl hL (fun w hq => by
    rcases List.mem_cons.mp hq with rfl | hq
    · exact trivial
    · exact hst w (List.mem_cons_of_mem _ (List.mem_cons_of_mem _ hq))))
theorem s_baload {t i n : Nat} {x : Int32} (hs : mSh t = .inr (.boolean, n)) (h9 : t ≠ 99) (hin : mIn x n = true) (hd : decode cc pc = .ok (.baload, 1))
    (kk : Sim G X cc nL own rt rm em f (pc + 1) L (.inl (h.1 t i x.toNatClampNeg) :: st) h) : Sim G X cc nL own rt rm em f pc L (.inl x :: .inr (.inr (t, i)) :: st) h := by
  intro a ha
  have kk := kk a ha
  obtain ⟨p, l, e, R, s, m, args, below, meth, c0, nc, ns, QQ⟩ := X
  intro F H locs ls hw hS hl hL hst
  obtain ⟨hx, hb, hml, hown, hts, hr, hlk, hK, hrm, hnc, hQQ⟩ := id F
  have hi := mLi_ref (hst _ (List.mem_cons_of_mem _ List.mem_cons_self)) h9
  have hat := hw.1 t i hi
  rw [mE_arr hs, mAr_bool] at hat
  exact va_zald hx hb hK.1 (va_P_one hat) 0 2 rfl rfl (mIn_vp hin) hd (kk F H locs ls hw hS hl hL (fun w hq => by
    rcases List.mem_cons.mp hq with rfl | hq
    · exact trivial
    · exact hst w (List.mem_cons_of_mem _ (List.mem_cons_of_mem _ hq))))
theorem s_laload {t i n : Nat} {x : Int32} (hs : mSh t = .inr (.long, n)) (h9 : t ≠ 99) (hin : mIn x n = true) (hd : decode cc pc = .ok (.laload, 1))
    (kk : Sim G X cc nL own rt rm em f (pc + 1) L (.inr (.inl (h.2 t i x.toNatClampNeg)) :: st) h) : Sim G X cc nL own rt rm em f pc L (.inl x :: .inr (.inr (t, i)) :: st) h := by
  intro a ha
  have kk := kk a ha
  obtain ⟨p, l, e, R, s, m, args, below, meth, c0, nc, ns, QQ⟩ := X
  intro F H locs ls hw hS hl hL hst
  obtain ⟨hx, hb, hml, hown, hts, hr, hlk, hK, hrm, hnc, hQQ⟩ := id F
  have hi := mLi_ref (hst _ (List.mem_cons_of_mem _ List.mem_cons_self)) h9
  have hat := hw.1 t i hi
  rw [mE_arr hs, mAr_long] at hat
  exact va_lald hx hb hK.1 (va_P_one hat) 0 1 rfl rfl (mIn_vp hin) hd (kk F H locs ls hw hS hl hL (fun w hq => by
    rcases List.mem_cons.mp hq with rfl | hq
    · exact trivial
    · exact hst w (List.mem_cons_of_mem _ (List.mem_cons_of_mem _ hq))))
theorem s_aaload {t i n t0 : Nat} {ty : FieldType} {x : Int32} {r : mR} (hs : mSh t = .inr (ty, n)) (h9 : t ≠ 99) (hy : mIsRf ty = true) (ht0 : mTyL[t0]? = some ty) (hin : mIn x n = true) (hrf : mRf t i x.toNatClampNeg = some r) (hlr : i < mCn t → x.toNatClampNeg < n → r.2 < mCn r.1) (hd : decode cc pc = .ok (.aaload, 1))
    (kk : Sim G X cc nL own rt rm em f (pc + 1) L (.inr (.inr r) :: st) h) : Sim G X cc nL own rt rm em f pc L (.inl x :: .inr (.inr (t, i)) :: st) h := by
  intro a ha
  have kk := kk a ha
  obtain ⟨p, l, e, R, s, m, args, below, meth, c0, nc, ns, QQ⟩ := X
  intro F H locs ls hw hS hl hL hst
  obtain ⟨hx, hb, hml, hown, hts, hr, hlk, hK, hrm, hnc, hQQ⟩ := id F
  have hi := mLi_ref (hst _ (List.mem_cons_of_mem _ List.mem_cons_self)) h9
  have hat := hw.1 t i hi
  rw [mE_arr hs, mAr_ref hy] at hat
  have hlt : x.toNatClampNeg < n := Nat.not_le.mp fun q => mIn_vp hin (Or.inr q)
  have ht1 : (mTys G)[t0]? = some (G.2.1 ty, ty) := by rw [mTys, List.getElem?_map, ht0]; rfl
  refine W.aald (v := .ref (mAd G r)) (ty := ty) hx hb hat ((hK.1.2 t0 _ ht1).1 n (fun j => va_rf ((mRf t i j).map (mAd G)))) (by cases ty <;> simp [mIsRf] at hy <;> rfl) (fun q => by cases q) (by show ¬ (x < 0 ∨ (arrV _ _ _).slots.size ≤ _); rw [arrV_size]; exact mIn_vp hin) (by show (arrV _ _ _).slots[_]? = _; rw [arrV_read _ _ hlt]; show some (va_rf ((mRf t i x.toNatClampNeg).map (mAd G))) = _; rw [hrf]; rfl) rfl rfl hd (kk F H locs ls hw hS hl hL (fun w hq => ?_))
  rcases List.mem_cons.mp hq with rfl | hq
  · exact Or.inl (hlr hi hlt)
  · exact hst w (List.mem_cons_of_mem _ (List.mem_cons_of_mem _ hq))
theorem s_iastore {t i n : Nat} {x v : Int32} (hs : mSh t = .inr (.int, n)) (h9 : t ≠ 99) (hin : mIn x n = true) (hd : decode cc pc = .ok (.iastore, 1))
    (kk : Sim G X cc nL own rt rm em f (pc + 1) L st (uI h t i x.toNatClampNeg v)) : Sim G X cc nL own rt rm em f pc L (.inl v :: .inl x :: .inr (.inr (t, i)) :: st) h := by
  intro a ha
  have kk := kk a ha
  obtain ⟨p, l, e, R, s, m, args, below, meth, c0, nc, ns, QQ⟩ := X
  intro F H locs ls hw hS hl hL hst
  obtain ⟨hx, hb, hml, hown, hts, hr, hlk, hK, hrm, hnc, hQQ⟩ := id F
  have hi := mLi_ref (hst _ (List.mem_cons_of_mem _ (List.mem_cons_of_mem _ List.mem_cons_self))) h9
  have hat := hw.1 t i hi
  rw [mE_arr hs, mAr_int] at hat
  refine W.iast hx hb hat ((hK.1.2 0 _ rfl).1 n (fun j => .int (h.1 t i j))) (fun q => by cases q) (by show ¬ (x < 0 ∨ (arrV _ _ _).slots.size ≤ _); rw [arrV_size]; exact mIn_vp hin) rfl rfl hd fun H1 e1 z oq => ?_
  have hw' : mW G (uI h t i x.toNatClampNeg v) H1 := by
    refine hw.upd hi ?_ oq (fun t' i' e => mE_ne (uI_ne e) rfl)
    rw [mE_arr hs, mAr_int, uI_eq]
    show H1[_]? = some (vp_cell _ _)
    rw [e1, vp_cell_i, vp_cell_i, arrV_store]
    congr 2
    funext q
    by_cases hq : q = x.toNatClampNeg
    · subst hq
      simp [updV, upd]
    · simp [updV, upd, hq]
  exact kk F H1 _ ls hw' (hS.put z oq (hw.2.2 t i hi)) hl hL (fun w hq => hst w (List.mem_cons_of_mem _ (List.mem_cons_of_mem _ (List.mem_cons_of_mem _ hq))))
theorem s_bastore {t i n : Nat} {x v : Int32} (hs : mSh t = .inr (.boolean, n)) (h9 : t ≠ 99) (hin : mIn x n = true) (hv : v = 0 ∨ v = 1) (hd : decode cc pc = .ok (.bastore, 1))
    (kk : Sim G X cc nL own rt rm em f (pc + 1) L st (uI h t i x.toNatClampNeg v)) : Sim G X cc nL own rt rm em f pc L (.inl v :: .inl x :: .inr (.inr (t, i)) :: st) h := by
  intro a ha
  have kk := kk a ha
  obtain ⟨p, l, e, R, s, m, args, below, meth, c0, nc, ns, QQ⟩ := X
  intro F H locs ls hw hS hl hL hst
  obtain ⟨hx, hb, hml, hown, hts, hr, hlk, hK, hrm, hnc, hQQ⟩ := id F
  have hi := mLi_ref (hst _ (List.mem_cons_of_mem _ (List.mem_cons_of_mem _ List.mem_cons_self))) h9
  have hat := hw.1 t i hi
  rw [mE_arr hs, mAr_bool] at hat
  have hnv : narrow .boolean (.int v) = .int v := by rcases hv with rfl | rfl <;> decide
  refine W.zast hx hb hat ((hK.1.2 2 _ rfl).1 n (fun j => .int (h.1 t i j))) (fun q => by cases q) (by show ¬ (x < 0 ∨ (arrV _ _ _).slots.size ≤ _); rw [arrV_size]; exact mIn_vp hin) rfl rfl hd fun H1 e1 z oq => ?_
  rw [hnv] at e1
  have hw' : mW G (uI h t i x.toNatClampNeg v) H1 := by
    refine hw.upd hi ?_ oq (fun t' i' e => mE_ne (uI_ne e) rfl)
    rw [mE_arr hs, mAr_bool, uI_eq]
    show H1[_]? = some (vp_cell _ _)
    rw [e1, vp_cell_i, vp_cell_i, arrV_store]
    congr 2
    funext q
    by_cases hq : q = x.toNatClampNeg
    · subst hq
      simp [updV, upd]
    · simp [updV, upd, hq]
  exact kk F H1 _ ls hw' (hS.put z oq (hw.2.2 t i hi)) hl hL (fun w hq => hst w (List.mem_cons_of_mem _ (List.mem_cons_of_mem _ (List.mem_cons_of_mem _ hq))))
theorem s_lastore {t i n : Nat} {x : Int32} {v : Int64} (hs : mSh t = .inr (.long, n)) (h9 : t ≠ 99) (hin : mIn x n = true) (hd : decode cc pc = .ok (.lastore, 1))
    (kk : Sim G X cc nL own rt rm em f (pc + 1) L st (uJ h t i x.toNatClampNeg v)) : Sim G X cc nL own rt rm em f pc L (.inr (.inl v) :: .inl x :: .inr (.inr (t, i)) :: st) h := by
  intro a ha
  have kk := kk a ha
  obtain ⟨p, l, e, R, s, m, args, below, meth, c0, nc, ns, QQ⟩ := X
  intro F H locs ls hw hS hl hL hst
  obtain ⟨hx, hb, hml, hown, hts, hr, hlk, hK, hrm, hnc, hQQ⟩ := id F
  have hi := mLi_ref (hst _ (List.mem_cons_of_mem _ (List.mem_cons_of_mem _ List.mem_cons_self))) h9
  have hat := hw.1 t i hi
  rw [mE_arr hs, mAr_long] at hat
  refine W.last hx hb hat ((hK.1.2 1 _ rfl).1 n (fun j => .long (h.2 t i j))) (fun q => by cases q) (by show ¬ (x < 0 ∨ (arrV _ _ _).slots.size ≤ _); rw [arrV_size]; exact mIn_vp hin) rfl rfl hd fun H1 e1 z oq => ?_
  have hw' : mW G (uJ h t i x.toNatClampNeg v) H1 := by
    refine hw.upd hi ?_ oq (fun t' i' e => mE_ne rfl (uJ_ne e))
    rw [mE_arr hs, mAr_long]
    show H1[_]? = some (vp_cell _ _)
    rw [e1, vp_cell_l, vp_cell_l, arrV_store]
    congr 2
    funext q
    show updV _ _ _ q = Value.long (if t = t ∧ i = i ∧ q = x.toNatClampNeg then v else h.2 t i q)
    by_cases hq : q = x.toNatClampNeg
    · subst hq
      simp [updV]
    · simp [updV, hq]
  exact kk F H1 _ ls hw' (hS.put z oq (hw.2.2 t i hi)) hl hL (fun w hq => hst w (List.mem_cons_of_mem _ (List.mem_cons_of_mem _ (List.mem_cons_of_mem _ hq))))
theorem s_alen {t i n t0 : Nat} {ty : FieldType} {v : Int32} (hs : mSh t = .inr (ty, n)) (h9 : t ≠ 99) (ht0 : mTyL[t0]? = some ty) (hv : Int32.ofNat n = v) (hd : decode cc pc = .ok (.arraylength, 1))
    (kk : Sim G X cc nL own rt rm em f (pc + 1) L (.inl v :: st) h) : Sim G X cc nL own rt rm em f pc L (.inr (.inr (t, i)) :: st) h := by
  intro a ha
  have kk := kk a ha
  obtain ⟨p, l, e, R, s, m, args, below, meth, c0, nc, ns, QQ⟩ := X
  intro F H locs ls hw hS hl hL hst
  obtain ⟨hx, hb, hml, hown, hts, hr, hlk, hK, hrm, hnc, hQQ⟩ := id F
  have hi := mLi_ref (hst _ List.mem_cons_self) h9
  have hat := hw.1 t i hi
  rw [mE_arr hs] at hat
  have ht1 : (mTys G)[t0]? = some (G.2.1 ty, ty) := by rw [mTys, List.getElem?_map, ht0]; rfl
  exact va_alen hx hb hK.1 (va_P_one hat) 0 t0 rfl ht1 hv hd (kk F H locs ls hw hS hl hL (fun w hq => by
    rcases List.mem_cons.mp hq with rfl | hq
    · exact trivial
    · exact hst w (List.mem_cons_of_mem _ hq)))
end MC
