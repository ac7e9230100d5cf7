/-! ===== THE WORLD, and the judgement Sm: a frame of a method over it; Sim: a function of the world that tells what the frame comes to ===== -/
abbrev mR : Type := Nat × Nat
/-- an int, a long, a reference -/
abbrev mV : Type := Int32 ⊕ (Int64 ⊕ mR)
/-- what changes: ints and longs, by tag, number, slot -/
abbrev mH : Type := (Nat → Nat → Nat → Int32) × (Nat → Nat → Nat → Int64)
/-- what the launch gives: numbers of classes and slots; classes of arrays; addresses; where new cells begin -/
abbrev mG : Type := va_G × (FieldType → ClassId) × (Nat → Nat → Nat) × Nat
def mC (G : mG) (v : mV) : Value := match v with
  | .inl x => .int x
  | .inr (.inl x) => .long x
  | .inr (.inr r) => .ref (G.2.2.1 r.1 r.2)
def mCat (v : mV) : Nat := match v with
  | .inr (.inl _) => 2
  | _ => 1
theorem mC_cat (G : mG) (v : mV) : (mC G v).category = mCat v := by
  rcases v with x | x | r <;> rfl
def mLi (v : mV) : Prop := match v with
  | .inr (.inr r) => r.2 < mCn r.1 ∨ r.1 = 99
  | _ => True
def mIsRf (ty : FieldType) : Bool := match ty with
  | .object _ => true
  | .array _ => true
  | _ => false
def mAd (G : mG) (r : mR) : Nat := G.2.2.1 r.1 r.2
def mSl (G : mG) (h : mH) (t i k : Nat) (ty : FieldType) : Value := if mIsRf ty then va_rf ((mRf t i k).map (mAd G)) else if ty = .long then .long (h.2 t i k) else .int (h.1 t i k)
def mAr (G : mG) (h : mH) (t i : Nat) (ty : FieldType) : ((Nat → Int32) ⊕ (Nat → Int64) ⊕ (Nat → UInt32) ⊕ (Nat → UInt64) ⊕ (Nat → Option Nat)) :=
  if mIsRf ty then .inr (.inr (.inr (.inr fun k => (mRf t i k).map (mAd G)))) else if ty = .long then .inr (.inl (h.2 t i)) else .inl (h.1 t i)
def mFs (G : mG) (h : mH) (t i c : Nat) : List Value := (List.range (mNs c)).map fun k => mSl G h t i k (mTy c k)
def mE (G : mG) (h : mH) (t i : Nat) : va_E := match mSh t with
  | .inl c => .inr (c, mFs G h t i c)
  | .inr q => .inl (G.2.1 q.1, q.2, mAr G h t i q.1)
def mTys (G : mG) : List (ClassId × FieldType) := mTyL.map fun ty => (G.2.1 ty, ty)
/-- what the tables say -/
def mKT (G : mG) (U : State) : Prop := va_K G.1 mCl (mTys G) U ∧ ∀ w ∈ mNw, va_Nw w U
/-- the heap holds the world h -/
def mW (G : mG) (h : mH) (H : Heap) : Prop := (∀ t i, i < mCn t → va_at G.1 mCl (G.2.2.1 t i, mE G h t i) H) ∧ (∀ t i t' i', i < mCn t → i' < mCn t' → G.2.2.1 t i = G.2.2.1 t' i' → t = t' ∧ i = i') ∧ ∀ t i, i < mCn t → G.2.2.2 ≤ G.2.2.1 t i
def mA (G : mG) : Nat → Prop := fun q => G.2.2.2 ≤ q
abbrev mRes : Type := Option mV × mH
/-- a frame's surroundings; cells and slots that are made already; what it must come to -/
abbrev mX : Type := Program × Launch × Env × Room × State × MethodId × Array Value × List Frame × Method × Code × Nat × Nat × (mRes → State → Prop)
def mQ (G : mG) (r : mRes) : Array Value → State → Outcome → State → Prop := fun _ st oc t => oc = .returned (r.1.map (mC G)) ∧ (∀ v, r.1 = some v → mLi v) ∧ mW G r.2 t.heap ∧ va_F (mA G) st t
def mFr (G : mG) (X : mX) (cc : ByteArray) (nL : Nat) (own : String) (rt : Option FieldType) (rm : Room) : Prop := match X with
  | (p, _, _, R, s, m, args, below, meth, c, nc, ns, QQ) => p.tables.exec = Jvm.exec ∧ c.code = cc ∧ c.maxLocals = nL ∧ s.vm.findClass own = some m.cls ∧ (∀ w ∈ mTb, w.before args s = true) ∧ meth.sig.returnType = rt ∧ meth.locks = false ∧ mKT G s ∧ R = rm ∧ (nc ≤ R.cells ∧ ns ≤ R.slots) ∧ (rm.cells = 0 → nc = 0 ∧ ns = 0 ∧ QQ = fun r => MQ below (mQ G r) args s 0 0 (mA G))
def mLs (G : mG) (L : List (Nat × mV)) : List (Nat × Value) := L.map fun q => (q.1, mC G q.2)
def Sm (G : mG) (X : mX) (cc : ByteArray) (nL : Nat) (own : String) (rt : Option FieldType) (rm : Room) (r : mRes) (pc : Nat) (L : List (Nat × mV)) (st : List mV) (h : mH) : Prop := match X with
  | (p, l, e, R, s, m, args, below, meth, c, nc, ns, QQ) => mFr G (p, l, e, R, s, m, args, below, meth, c, nc, ns, QQ) cc nL own rt rm → ∀ (H : Heap) (locs : List Loc) (ls : Array Slot), mW G h H → va_S (mA G) s.heap H locs → lv_has ls nL (mLs G L) → (∀ q ∈ L, mLi q.2) → (∀ v ∈ st, mLi v) →
      W p l e R s m args below meth c H locs nc ns (QQ r) (F0 m pc ls (st.map (mC G)))
def Sim {α : Type} (G : mG) (X : mX) (cc : ByteArray) (nL : Nat) (own : String) (rt : Option FieldType) (rm : Room) (em : α → mRes) (f : Option α) (pc : Nat) (L : List (Nat × mV)) (st : List mV) (h : mH) : Prop := ∀ a, f = some a → Sm G X cc nL own rt rm (em a) pc L st h
def eI (r : Int32 × mH) : mRes := (some (.inl r.1), r.2)
def eJ (r : Int64 × mH) : mRes := (some (.inr (.inl r.1)), r.2)
def eV (r : mH) : mRes := (none, r)
def uI (h : mH) (t i k : Nat) (x : Int32) : mH := (fun t' i' k' => if t' = t ∧ i' = i ∧ k' = k then x else h.1 t' i' k', h.2)
def uJ (h : mH) (t i k : Nat) (x : Int64) : mH := (h.1, fun t' i' k' => if t' = t ∧ i' = i ∧ k' = k then x else h.2 t' i' k')
/-- a place within a row -/
def mIn (x : Int32) (n : Nat) : Bool := !(decide (x < 0) || decide (n ≤ x.toNatClampNeg))
theorem mIn_vp {x : Int32} {n : Nat} (h : mIn x n = true) : vp_in x n := by
  unfold vp_in
  simp [mIn] at h
  intro q
  rcases q with q | q
  · exact absurd q (Int32.not_lt.mpr h.1)
  · omega
theorem mKT.warm {G : mG} {u U : State} (hW : u.WarmedH U.vm) (h : mKT G u) : mKT G U := by
  refine ⟨va_K.moved hW.alike h.1, fun w hw => ?_⟩
  have h2 := h.2 w hw
  simp only [mNw, List.mem_cons, List.not_mem_nil, or_false] at hw
  rcases hw with rfl | rfl | rfl | rfl | rfl | rfl | rfl | rfl | rfl | rfl <;> exact va_Nw.warmM hW h2
theorem mKT.same {G : mG} {u U : State} (hv : u.vm = U.vm) (h : mKT G u) : mKT G U := by
  refine ⟨va_K.moved (by rw [hv]; exact Vm.Alike.refl _) h.1, fun w hw => ?_⟩
  have h2 := h.2 w hw
  simp only [mNw, List.mem_cons, List.not_mem_nil, or_false] at hw
  rcases hw with rfl | rfl | rfl | rfl | rfl | rfl | rfl | rfl | rfl | rfl <;> exact va_Nw.same rfl hv h2
/-- other cells stay -/
theorem mW.upd {G : mG} {h h' : mH} {H H1 : Heap} {t i : Nat} (hw : mW G h H) (hi : i < mCn t) (he : va_at G.1 mCl (G.2.2.1 t i, mE G h' t i) H1) (oq : ∀ q : Nat, q ≠ G.2.2.1 t i → H1[q]? = H[q]?) (hh : ∀ t' i', ¬ (t' = t ∧ i' = i) → mE G h' t' i' = mE G h t' i') : mW G h' H1 := by
  refine ⟨fun t' i' hi' => ?_, hw.2.1, hw.2.2⟩
  by_cases e : t' = t ∧ i' = i
  · obtain ⟨rfl, rfl⟩ := e
    exact he
  · rw [hh t' i' e]
    refine (hw.1 t' i' hi').kept (oq _ fun q => e ?_)
    exact hw.2.1 t' i' t i hi' hi q
theorem mE_ne {G : mG} {h h' : mH} {t i : Nat} (h1 : h'.1 t i = h.1 t i) (h2 : h'.2 t i = h.2 t i) : mE G h' t i = mE G h t i := by
  unfold mE mFs mAr mSl
  rw [h1, h2]
theorem uI_ne {h : mH} {t i k : Nat} {x : Int32} {t' i' : Nat} (e : ¬ (t' = t ∧ i' = i)) : (uI h t i k x).1 t' i' = h.1 t' i' := by
  funext k'
  show (if t' = t ∧ i' = i ∧ k' = k then x else h.1 t' i' k') = _
  rw [if_neg (fun q => e ⟨q.1, q.2.1⟩)]
theorem uJ_ne {h : mH} {t i k : Nat} {x : Int64} {t' i' : Nat} (e : ¬ (t' = t ∧ i' = i)) : (uJ h t i k x).2 t' i' = h.2 t' i' := by
  funext k'
  show (if t' = t ∧ i' = i ∧ k' = k then x else h.2 t' i' k') = _
  rw [if_neg (fun q => e ⟨q.1, q.2.1⟩)]
theorem uI_eq {h : mH} {t i k : Nat} {x : Int32} : (uI h t i k x).1 t i = upd (h.1 t i) k x := by
  funext k'
  show (if t = t ∧ i = i ∧ k' = k then x else h.1 t i k') = upd (h.1 t i) k x k'
  by_cases e : k' = k
  · subst e
    simp [upd]
  · simp [upd, e]
