/-! ===== names for heaps, defaults of switches, arraycopy ===== -/
def mLet {α : Type} (h : mH) (k : mH → Option α) : Option α := k h
/-- every cell that is there -/
def mKeys : List mR := (List.range 99).flatMap fun t => (List.range (mCn t)).map fun i => (t, i)
theorem mCn_lt {t i : Nat} (h : i < mCn t) : t < 99 := by
  rcases Nat.lt_or_ge t 99 with q | q
  · exact q
  · unfold mCn at h
    split at h <;> omega
theorem mKeys_in {t i : Nat} (h : i < mCn t) : (t, i) ∈ mKeys := by
  unfold mKeys
  rw [List.mem_flatMap]
  exact ⟨t, List.mem_range.mpr (mCn_lt h), List.mem_map.mpr ⟨i, List.mem_range.mpr h, rfl⟩⟩
theorem mKeys_of {t i : Nat} (h : (t, i) ∈ mKeys) : i < mCn t := by
  unfold mKeys at h
  rw [List.mem_flatMap] at h
  obtain ⟨t', -, h⟩ := h
  obtain ⟨i', hi, e⟩ := List.mem_map.mp h
  cases e
  exact List.mem_range.mp hi
theorem mNd {l : List mR} (h : l.Nodup) {i j : Nat} {a : mR} (hi : l[i]? = some a) (hj : l[j]? = some a) : i = j := by
  obtain ⟨li, ei⟩ := List.getElem?_eq_some_iff.mp hi
  obtain ⟨lj, ej⟩ := List.getElem?_eq_some_iff.mp hj
  rcases Nat.lt_trichotomy i j with q | q | q
  · exact absurd (ei.trans ej.symm) (List.pairwise_iff_getElem.mp h i j li lj q)
  · exact q
  · exact absurd (ej.trans ei.symm) (List.pairwise_iff_getElem.mp h j i lj li q)
theorem mKeys_nd : mKeys.Nodup := by decide +kernel
def mWs (G : mG) (h : mH) : va_W := mKeys.map fun r => (mAd G r, mE G h r.1 r.2)
theorem mWs_at {G : mG} {h : mH} {q : Nat} {r : mR} (hq : mKeys[q]? = some r) : (mWs G h)[q]? = some (mAd G r, mE G h r.1 r.2) := by
  unfold mWs
  rw [List.getElem?_map, hq]
  rfl
theorem mW.P {G : mG} {h : mH} {H : Heap} (hw : mW G h H) : va_P G.1 mCl (mWs G h) H := fun k q hk => by
  unfold mWs at hk
  rw [List.getElem?_map] at hk
  obtain ⟨r, hr, rfl⟩ := Option.map_eq_some_iff.mp hk
  exact hw.1 r.1 r.2 (mKeys_of (List.mem_of_getElem? hr))
theorem mW.D {G : mG} {h : mH} {H : Heap} (hw : mW G h H) : va_D (mA G) (mWs G h) := by
  refine ⟨fun i j p q hi hj e => ?_, fun k q hk => ?_⟩
  · unfold mWs at hi hj
    rw [List.getElem?_map] at hi hj
    obtain ⟨r, hr, rfl⟩ := Option.map_eq_some_iff.mp hi
    obtain ⟨r', hr', rfl⟩ := Option.map_eq_some_iff.mp hj
    have hrr : r = r' := by
      have z := hw.2.1 r.1 r.2 r'.1 r'.2 (mKeys_of (List.mem_of_getElem? hr)) (mKeys_of (List.mem_of_getElem? hr')) e
      exact Prod.ext z.1 z.2
    subst hrr
    exact mNd mKeys_nd hr hr'
  · unfold mWs at hk
    rw [List.getElem?_map] at hk
    obtain ⟨r, hr, rfl⟩ := Option.map_eq_some_iff.mp hk
    exact hw.2.2 r.1 r.2 (mKeys_of (List.mem_of_getElem? hr))
theorem mW.back {G : mG} {h h' : mH} {H H1 : Heap} {q : Nat} {r : mR} {e : va_E} (hw : mW G h H) (hq : mKeys[q]? = some r) (hP : va_P G.1 mCl ((mWs G h).set q (mAd G r, e)) H1) (he : e = mE G h' r.1 r.2) (hh : ∀ t i, ¬ (t = r.1 ∧ i = r.2) → mE G h' t i = mE G h t i) : mW G h' H1 := by
  refine ⟨fun t i hi => ?_, hw.2.1, hw.2.2⟩
  obtain ⟨j, hj⟩ := List.getElem?_of_mem (mKeys_in hi)
  by_cases ej : j = q
  · subst ej
    have e2 : r = (t, i) := Option.some.inj (hq.symm.trans hj)
    subst e2
    have hlt : j < (mWs G h).length := by
      unfold mWs
      rw [List.length_map]
      exact (List.getElem?_eq_some_iff.mp hj).1
    have z := hP j (mAd G (t, i), e) (by rw [List.getElem?_set_self hlt])
    rw [he] at z
    exact z
  · have z := hP j (mAd G (t, i), mE G h t i) (by rw [List.getElem?_set_ne (fun e => ej e.symm)]; exact mWs_at hj)
    rw [hh t i]
    · exact z
    · intro e2
      apply ej
      refine mNd mKeys_nd hj (hq.trans (congrArg some ?_))
      exact Prod.ext e2.1.symm e2.2.symm
def cpI (h : mH) (t0 i0 t1 i1 sp dp n : Nat) : mH := (fun t i k => if t = t1 ∧ i = i1 ∧ dp ≤ k ∧ k < dp + n then h.1 t0 i0 (sp + (k - dp)) else h.1 t i k, h.2)
def cpJ (h : mH) (t0 i0 t1 i1 sp dp n : Nat) : mH := (h.1, fun t i k => if t = t1 ∧ i = i1 ∧ dp ≤ k ∧ k < dp + n then h.2 t0 i0 (sp + (k - dp)) else h.2 t i k)
def mCp (sp dp n : Int32) (n0 n1 : Nat) : Bool := !(decide (sp < 0)) && (!(decide (dp < 0)) && (!(decide (n < 0)) && (decide (sp.toNatClampNeg + n.toNatClampNeg ≤ n0) && decide (dp.toNatClampNeg + n.toNatClampNeg ≤ n1))))
theorem mCp_of {sp dp n : Int32} {n0 n1 : Nat} (h : mCp sp dp n n0 n1 = true) : ¬ sp < 0 ∧ ¬ dp < 0 ∧ ¬ n < 0 ∧ sp.toNatClampNeg + n.toNatClampNeg ≤ n0 ∧ dp.toNatClampNeg + n.toNatClampNeg ≤ n1 := by
  unfold mCp at h
  simp only [Bool.and_eq_true, Bool.not_eq_true', decide_eq_false_iff_not, decide_eq_true_eq] at h
  exact ⟨h.1, h.2.1, h.2.2.1, h.2.2.2.1, h.2.2.2.2⟩
def mAc (own : String) (idx : Nat) : Prop := Cond.methodLink own idx arraycopyName ∈ mTb ∧ Cond.native arraycopyName ∈ mTb ∧ Cond.static arraycopyName ∈ mTb ∧ Cond.initialized "java/lang/System" ∈ mTb
section MM
variable {α : Type} {G : mG} {X : mX} {cc : ByteArray} {nL : Nat} {own : String} {rt : Option FieldType} {rm : Room} {em : α → mRes} {f : Option α} {pc : Nat} {L : List (Nat × mV)} {st : List mV} {h : mH}
theorem s_let {body : mH → Option α} {e : mH} (k : ∀ h1 : mH, Sim G X cc nL own rt rm em (body h1) pc L st h1) : Sim G X cc nL own rt rm em (mLet e body) pc L st e := k e
theorem s_tabD {x : Int32} {dflt lo hi : Int} {offs : Array Int} {len : Nat} (hd : decode cc pc = .ok (.tableswitch dflt lo hi offs, len)) (cs : List Int32) (hq : ∀ c ∈ cs, ¬ x = c) (hs : (List.range offs.size).all (fun j => decide (offs.getD j 0 = dflt) || cs.contains (Int32.ofInt (lo + j))) = true) (hz : (offs.size : Int) = hi - lo + 1) (tg : Nat) (ht : (pc : Int) + dflt = (tg : Int))
    (k : Sim G X cc nL own rt rm em f tg L st h) : Sim G X cc nL own rt rm em f pc L (.inl x :: st) h := by
  refine s_table hd tg ?_ hz k
  by_cases q : x.toInt < lo ∨ hi < x.toInt
  · rw [if_pos q]; exact ht
  · rw [if_neg q]
    have q1 : ¬ x.toInt < lo := fun z => q (Or.inl z)
    have q2 : ¬ hi < x.toInt := fun z => q (Or.inr z)
    have hlt : (x.toInt - lo).toNat < offs.size := by omega
    have z := List.all_eq_true.mp hs _ (List.mem_range.mpr hlt)
    have e : lo + ((x.toInt - lo).toNat : Int) = x.toInt := by omega
    rw [e, Int32.ofInt_toInt] at z
    rcases Bool.or_eq_true_iff.mp z with z | z
    · rw [of_decide_eq_true z]; exact ht
    · exact absurd rfl (hq x (List.contains_iff_mem.mp z))
theorem lok_dflt (x : Int32) (dflt : Int) (cs : List Int32) (hq : ∀ c ∈ cs, ¬ x = c) : ∀ (ps : List (Int × Int)), ps.all (fun p => cs.contains (Int32.ofInt p.1)) = true → Op.lookupswitch.offset ps dflt x.toInt = dflt
  | [], _ => rfl
  | (a, o) :: ps, hs => by
    rw [List.all_cons, Bool.and_eq_true] at hs
    rw [Op.lookupswitch.offset_cons, if_neg, lok_dflt x dflt cs hq ps hs.2]
    intro e
    have z := hs.1
    rw [e, Int32.ofInt_toInt] at z
    exact hq x (List.contains_iff_mem.mp z) rfl
theorem s_lokD {x : Int32} {dflt : Int} {ps : Array (Int × Int)} {len : Nat} (hd : decode cc pc = .ok (.lookupswitch dflt ps, len)) (cs : List Int32) (hq : ∀ c ∈ cs, ¬ x = c) (hp : (ps.toList.zip (ps.toList.drop 1)).all (fun (a, next) => a.1 < next.1) = true) (hs : ps.toList.all (fun p => cs.contains (Int32.ofInt p.1)) = true) (tg : Nat) (ht : (pc : Int) + dflt = (tg : Int))
    (k : Sim G X cc nL own rt rm em f tg L st h) : Sim G X cc nL own rt rm em f pc L (.inl x :: st) h :=
  s_lookup hd hp tg (by rw [lok_dflt x dflt cs hq ps.toList hs]; exact ht) k
theorem s_cpI {t0 i0 n0 t1 i1 n1 idx : Nat} {sp dp n : Int32} (h0 : mArrT .int t0 n0) (h1 : mArrT .int t1 n1) (hc : mCp sp dp n n0 n1 = true) (hm : mAc own idx) (hR1 : Nat.ble 1 rm.frames = true) (hR2 : Nat.ble (mSz st + (nativeFrameWords "java/lang/System" "arraycopy" 5 + 11)) rm.locals = true) (hd : decode cc pc = .ok (.invokestatic idx, 3))
    (k : Sim G X cc nL own rt rm em f (pc + 3) L st (cpI h t0 i0 t1 i1 sp.toNatClampNeg dp.toNatClampNeg n.toNatClampNeg)) : Sim G X cc nL own rt rm em f pc L (.inl n :: .inl dp :: .inr (.inr (t1, i1)) :: .inl sp :: .inr (.inr (t0, i0)) :: st) h := by
  intro a ha
  have k := k a ha
  obtain ⟨p, l, e, R, s, m, args, below, meth, c0, nc, ns, QQ⟩ := X
  intro F H locs ls hw hS hl hL hst
  obtain ⟨hx, hb, hml, hown, hts, hr, hlk, hK, rfl, hnc, hQQ⟩ := id F
  have hi1 := mLi_ref (hst (.inr (.inr (t1, i1))) (by simp)) h1.2
  have hi0 := mLi_ref (hst (.inr (.inr (t0, i0))) (by simp)) h0.2
  obtain ⟨q0, e0⟩ := List.getElem?_of_mem (mKeys_in hi0)
  obtain ⟨q1, e1⟩ := List.getElem?_of_mem (mKeys_in hi1)
  obtain ⟨c1, c2, c3, c4, c5⟩ := mCp_of hc
  have w0 := mWs_at (G := G) (h := h) e0
  have w1 := mWs_at (G := G) (h := h) e1
  dsimp only at w0 w1
  rw [mE_arr h0.1, mAr_int] at w0
  rw [mE_arr h1.1, mAr_int] at w1
  have hroom : (((st.map (mC G)).map fun v => v.category).sum) = mSz st := by
    simp [mSz, List.map_map, Function.comp_def, mC_cat]
  refine va_copyi hx hb (hml.trans hl.1.symm) hown (hts _ hm.1) (hts _ hm.2.1) (hts _ hm.2.2.1) (hts _ hm.2.2.2) hK.1 hw.P hw.D hS q0 q1 0 0 w0 w1 rfl rfl rfl c1 c2 c3 c4 c5 (fun _ _ => rfl) (Nat.le_of_ble_eq_true hR1) (by rw [hroom]; exact Nat.le_of_ble_eq_true hR2) hd (fun H1 locs1 hP1 _ hS1 => ?_)
  refine k F H1 locs1 ls (hw.back e1 hP1 ?_ (fun t i e => mE_ne ?_ rfl)) hS1 hl hL (fun w hq => hst w (by simp [hq]))
  · rw [mE_arr h1.1, mAr_int]
    congr 4
    funext kk
    simp [va_cpy, cpI]
  · funext kk
    show (if t = t1 ∧ i = i1 ∧ _ then _ else _) = _
    rw [if_neg (fun z => e ⟨z.1, z.2.1⟩)]
theorem s_cpJ {t0 i0 n0 t1 i1 n1 idx : Nat} {sp dp n : Int32} (h0 : mArrT .long t0 n0) (h1 : mArrT .long t1 n1) (hc : mCp sp dp n n0 n1 = true) (hm : mAc own idx) (hR1 : Nat.ble 1 rm.frames = true) (hR2 : Nat.ble (mSz st + (nativeFrameWords "java/lang/System" "arraycopy" 5 + 11)) rm.locals = true) (hd : decode cc pc = .ok (.invokestatic idx, 3))
    (k : Sim G X cc nL own rt rm em f (pc + 3) L st (cpJ h t0 i0 t1 i1 sp.toNatClampNeg dp.toNatClampNeg n.toNatClampNeg)) : Sim G X cc nL own rt rm em f pc L (.inl n :: .inl dp :: .inr (.inr (t1, i1)) :: .inl sp :: .inr (.inr (t0, i0)) :: st) h := by
  intro a ha
  have k := k a ha
  obtain ⟨p, l, e, R, s, m, args, below, meth, c0, nc, ns, QQ⟩ := X
  intro F H locs ls hw hS hl hL hst
  obtain ⟨hx, hb, hml, hown, hts, hr, hlk, hK, rfl, hnc, hQQ⟩ := id F
  have hi1 := mLi_ref (hst (.inr (.inr (t1, i1))) (by simp)) h1.2
  have hi0 := mLi_ref (hst (.inr (.inr (t0, i0))) (by simp)) h0.2
  obtain ⟨q0, e0⟩ := List.getElem?_of_mem (mKeys_in hi0)
  obtain ⟨q1, e1⟩ := List.getElem?_of_mem (mKeys_in hi1)
  obtain ⟨c1, c2, c3, c4, c5⟩ := mCp_of hc
  have w0 := mWs_at (G := G) (h := h) e0
  have w1 := mWs_at (G := G) (h := h) e1
  dsimp only at w0 w1
  rw [mE_arr h0.1, mAr_long] at w0
  rw [mE_arr h1.1, mAr_long] at w1
  have hroom : (((st.map (mC G)).map fun v => v.category).sum) = mSz st := by
    simp [mSz, List.map_map, Function.comp_def, mC_cat]
  refine va_copyl hx hb (hml.trans hl.1.symm) hown (hts _ hm.1) (hts _ hm.2.1) (hts _ hm.2.2.1) (hts _ hm.2.2.2) hK.1 hw.P hw.D hS q0 q1 1 1 w0 w1 rfl rfl rfl c1 c2 c3 c4 c5 (fun _ _ => rfl) (Nat.le_of_ble_eq_true hR1) (by rw [hroom]; exact Nat.le_of_ble_eq_true hR2) hd (fun H1 locs1 hP1 _ hS1 => ?_)
  refine k F H1 locs1 ls (hw.back e1 hP1 ?_ (fun t i e => mE_ne rfl ?_)) hS1 hl hL (fun w hq => hst w (by simp [hq]))
  · rw [mE_arr h1.1, mAr_long]
    congr 5
    funext kk
    simp [va_cpy, cpJ]
  · funext kk
    show (if t = t1 ∧ i = i1 ∧ _ then _ else _) = _
    rw [if_neg (fun z => e ⟨z.1, z.2.1⟩)]
end MM
/-! ===== Math.min of two longs ===== -/
def mMn (own : String) (idx : Nat) : Prop := Cond.methodLink own idx Lib.MathLoose.min_long.x ∈ mTb ∧ Cond.static Lib.MathLoose.min_long.x ∈ mTb ∧ Cond.initialized "java/lang/Math" ∈ mTb ∧ Cond.code Lib.MathLoose.min_long.x Lib.MathLoose.min_long.code 4 (some .long) ∈ mTb
section MN
variable {α : Type} {G : mG} {X : mX} {cc : ByteArray} {nL : Nat} {own : String} {rt : Option FieldType} {rm : Room} {em : α → mRes} {f : Option α} {pc : Nat} {L : List (Nat × mV)} {st : List mV} {h : mH}
theorem s_minJ {idx : Nat} {x y : Int64} (hm : mMn own idx) (hR1 : Nat.ble 1 rm.frames = true) (hR2 : Nat.ble (mSz st + 15) rm.locals = true) (hd : decode cc pc = .ok (.invokestatic idx, 3))
    (k : Sim G X cc nL own rt rm em f (pc + 3) L (.inr (.inl (if y < x then y else x)) :: st) h) : Sim G X cc nL own rt rm em f pc L (.inr (.inl y) :: .inr (.inl x) :: st) h := by
  intro a ha
  have k := k a ha
  obtain ⟨p, l, e, R, s, m, args, below, meth, c0, nc, ns, QQ⟩ := X
  intro F H locs ls hw hS hl hL hst
  obtain ⟨hx, hb, hml, hown, hts, hr, hlk, hK, rfl, hnc, hQQ⟩ := id F
  have hroom : (((st.map (mC G)).map fun v => v.category).sum) = mSz st := by
    simp [mSz, List.map_map, Function.comp_def, mC_cat]
  exact va_mmin_long hx hb (hml.trans hl.1.symm) hown (hts _ hm.1) (hts _ hm.2.1) (hts _ hm.2.2.1) (hts _ hm.2.2.2) (Nat.le_of_ble_eq_true hR1) (by rw [hroom]; exact Nat.le_of_ble_eq_true hR2) hnc.1 hnc.2 hd (k F H locs ls hw hS hl hL (fun w hq => by
    rcases List.mem_cons.mp hq with rfl | hq
    · exact trivial
    · exact hst w (by simp [hq])))
end MN
