/-! Worlds as maps: an address to its cell, and the heap's size. -/
abbrev mw_M : Type := (Nat → Option va_E) × Nat
def mw_up (S : mw_M) (a : Nat) (e : va_E) : mw_M := (fun q => if q = a then some e else S.1 q, S.2)
def mw_ad (S : mw_M) (e : va_E) : mw_M := (fun q => if q = S.2 then some e else S.1 q, S.2 + 1)
def mw_ex (S : mw_M) : mw_M := (S.1, S.2 + 1)
def mw_b2 {α β γ : Type} (o : Option (α × β)) (F : α → β → Option γ) : Option γ := match o with
  | some (a, b) => F a b
  | none => none
def mw_gv (S : mw_M) (a ci k : Nat) : Option Value := match S.1 a with
  | some (.inr (c, fs)) => if c = ci then fs[k]? else none
  | _ => none
def mw_gi (S : mw_M) (a ci k : Nat) : Option Int32 := match mw_gv S a ci k with
  | some (.int v) => some v
  | _ => none
def mw_gr (S : mw_M) (a ci k : Nat) : Option Nat := match mw_gv S a ci k with
  | some (.ref v) => some v
  | _ => none
def mw_pf (S : mw_M) (a ci k : Nat) (v : Value) : Option mw_M := match S.1 a with
  | some (.inr (c, fs)) => if c = ci ∧ k < fs.length then some (mw_up S a (.inr (c, fs.set k v))) else none
  | _ => none
def mw_ai (S : mw_M) (a : Nat) (cA : ClassId) (i : Int32) : Option Int32 := match S.1 a with
  | some (.inl (c, n, .inl f)) => if c = cA ∧ ¬ (i < 0 ∨ n ≤ i.toNatClampNeg) then some (f i.toNatClampNeg) else none
  | _ => none
def mw_si (S : mw_M) (a : Nat) (cA : ClassId) (i x : Int32) : Option mw_M := match S.1 a with
  | some (.inl (c, n, .inl f)) => if c = cA ∧ ¬ (i < 0 ∨ n ≤ i.toNatClampNeg) then some (mw_up S a (.inl (c, n, .inl (upd f i.toNatClampNeg x)))) else none
  | _ => none
def mw_aj (S : mw_M) (a : Nat) (cA : ClassId) (i : Int32) : Option Int64 := match S.1 a with
  | some (.inl (c, n, .inr (.inl f))) => if c = cA ∧ ¬ (i < 0 ∨ n ≤ i.toNatClampNeg) then some (f i.toNatClampNeg) else none
  | _ => none
def mw_sj (S : mw_M) (a : Nat) (cA : ClassId) (i : Int32) (x : Int64) : Option mw_M := match S.1 a with
  | some (.inl (c, n, .inr (.inl f))) => if c = cA ∧ ¬ (i < 0 ∨ n ≤ i.toNatClampNeg) then some (mw_up S a (.inl (c, n, .inr (.inl (vp_updL f i.toNatClampNeg x))))) else none
  | _ => none
def mw_aq (S : mw_M) (a : Nat) (cA : ClassId) (i : Int32) : Option Nat := match S.1 a with
  | some (.inl (c, n, .inr (.inr (.inr (.inr f))))) => if c = cA ∧ ¬ (i < 0 ∨ n ≤ i.toNatClampNeg) then f i.toNatClampNeg else none
  | _ => none
def mw_ob (S : mw_M) (a ci : Nat) : Bool := match S.1 a with
  | some (.inr (c, _)) => c == ci
  | _ => false
def mw_sq (S : mw_M) (a : Nat) (cA : ClassId) (ci : Nat) (i : Int32) (x : Nat) : Option mw_M := match S.1 a with
  | some (.inl (c, n, .inr (.inr (.inr (.inr f))))) => if (c = cA ∧ ¬ (i < 0 ∨ n ≤ i.toNatClampNeg)) ∧ mw_ob S x ci = true then some (mw_up S a (.inl (c, n, .inr (.inr (.inr (.inr (va_up f i.toNatClampNeg (some x)))))))) else none
  | _ => none
def mw_al (S : mw_M) (a : Nat) (cA : ClassId) : Option Int32 := match S.1 a with
  | some (.inl (c, x)) => if c = cA then some (Int32.ofNat x.1) else none
  | _ => none
def mw_na (S : mw_M) (cA : ClassId) (cap : Nat) (n : Int32) : Option (Nat × mw_M) := if ¬ n < 0 ∧ n.toNatClampNeg ≤ cap then some (S.2, mw_ad S (.inl (cA, n.toNatClampNeg, .inl (fun _ => 0)))) else none
def mw_nj (S : mw_M) (cA : ClassId) (cap : Nat) (n : Int32) : Option (Nat × mw_M) := if ¬ n < 0 ∧ n.toNatClampNeg ≤ cap then some (S.2, mw_ad S (.inl (cA, n.toNatClampNeg, .inr (.inl (fun _ => 0))))) else none
def mw_nq (S : mw_M) (cA : ClassId) (cap : Nat) (n : Int32) : Option (Nat × mw_M) := if ¬ n < 0 ∧ n.toNatClampNeg ≤ cap then some (S.2, mw_ad S (.inl (cA, n.toNatClampNeg, .inr (.inr (.inr (.inr (fun _ => none))))))) else none
def mw_no (S : mw_M) (ci : Nat) (fs : List Value) : Option (Nat × mw_M) := some (S.2, mw_ad S (.inr (ci, fs)))
def mw_v {α : Type} (S : mw_M) (a ci : Nat) (o : Option α) : Option α := if mw_ob S a ci = true then o else none
def mw_ushr (x y : Int32) : Int32 := (x.toUInt32 >>> (y.toUInt32 &&& Int32.toUInt32 31)).toInt32
def mw_i2b (x : Int32) : Int32 := x.toInt8.toInt32
def mw_i2c (x : Int32) : Int32 := (x.toUInt32 % 65536).toInt32
theorem mw_b {α γ : Type} {o : Option α} {F : α → Option γ} {z : γ} (h : o.bind F = some z) : ∃ v, o = some v ∧ F v = some z := by
  cases o with
  | none => cases h
  | some v => exact ⟨v, rfl, h⟩
theorem mw_bb {α β γ : Type} {o : Option (α × β)} {F : α → β → Option γ} {z : γ} (h : mw_b2 o F = some z) : ∃ a b, o = some (a, b) ∧ F a b = some z := by
  cases o with
  | none => cases h
  | some v => exact ⟨v.1, v.2, rfl, h⟩
theorem mw_ob_s {S : mw_M} {a ci : Nat} (h : mw_ob S a ci = true) : ∃ fs, S.1 a = some (.inr (ci, fs)) := by
  unfold mw_ob at h
  split at h
  · rename_i c fs e
    have hc : c = ci := by simpa using h
    exact ⟨fs, by rw [e, hc]⟩
  · cases h
theorem mw_v_s {α : Type} {S : mw_M} {a ci : Nat} {o : Option α} {z : α} (h : mw_v S a ci o = some z) : (∃ fs, S.1 a = some (.inr (ci, fs))) ∧ o = some z := by
  unfold mw_v at h
  split at h
  · rename_i hc
    exact ⟨mw_ob_s hc, h⟩
  · cases h
theorem mw_gv_s {S : mw_M} {a ci k : Nat} {v : Value} (h : mw_gv S a ci k = some v) : ∃ fs, S.1 a = some (.inr (ci, fs)) ∧ fs[k]? = some v := by
  unfold mw_gv at h
  split at h
  · rename_i c fs e
    split at h
    · rename_i hc
      subst hc
      exact ⟨fs, e, h⟩
    · cases h
  · cases h
theorem mw_gi_s {S : mw_M} {a ci k : Nat} {v : Int32} (h : mw_gi S a ci k = some v) : mw_gv S a ci k = some (.int v) := by
  unfold mw_gi at h
  split at h
  · rename_i x e
    cases h
    exact e
  · cases h
theorem mw_gr_s {S : mw_M} {a ci k : Nat} {v : Nat} (h : mw_gr S a ci k = some v) : mw_gv S a ci k = some (.ref v) := by
  unfold mw_gr at h
  split at h
  · rename_i x e
    cases h
    exact e
  · cases h
theorem mw_pf_s {S S' : mw_M} {a ci k : Nat} {v : Value} (h : mw_pf S a ci k v = some S') : ∃ fs, S.1 a = some (.inr (ci, fs)) ∧ k < fs.length ∧ S' = mw_up S a (.inr (ci, fs.set k v)) := by
  unfold mw_pf at h
  split at h
  · rename_i c fs e
    split at h
    · rename_i hc
      obtain ⟨rfl, hk⟩ := hc
      cases h
      exact ⟨fs, e, hk, rfl⟩
    · cases h
  · cases h
theorem mw_ai_s {S : mw_M} {a : Nat} {cA : ClassId} {i v : Int32} (h : mw_ai S a cA i = some v) : ∃ n f, S.1 a = some (.inl (cA, n, .inl f)) ∧ vp_in i n ∧ f i.toNatClampNeg = v := by
  unfold mw_ai at h
  split at h
  · rename_i c n f e
    split at h
    · rename_i hc
      obtain ⟨rfl, hk⟩ := hc
      cases h
      exact ⟨n, f, e, hk, rfl⟩
    · cases h
  · cases h
theorem mw_aj_s {S : mw_M} {a : Nat} {cA : ClassId} {i : Int32} {v : Int64} (h : mw_aj S a cA i = some v) : ∃ n f, S.1 a = some (.inl (cA, n, .inr (.inl f))) ∧ vp_in i n ∧ f i.toNatClampNeg = v := by
  unfold mw_aj at h
  split at h
  · rename_i c n f e
    split at h
    · rename_i hc
      obtain ⟨rfl, hk⟩ := hc
      cases h
      exact ⟨n, f, e, hk, rfl⟩
    · cases h
  · cases h
theorem mw_aq_s {S : mw_M} {a v : Nat} {cA : ClassId} {i : Int32} (h : mw_aq S a cA i = some v) : ∃ n f, S.1 a = some (.inl (cA, n, .inr (.inr (.inr (.inr f))))) ∧ vp_in i n ∧ f i.toNatClampNeg = some v := by
  unfold mw_aq at h
  split at h
  · rename_i c n f e
    split at h
    · rename_i hc
      obtain ⟨rfl, hk⟩ := hc
      exact ⟨n, f, e, hk, h⟩
    · cases h
  · cases h
theorem mw_si_s {S S' : mw_M} {a : Nat} {cA : ClassId} {i x : Int32} (h : mw_si S a cA i x = some S') : ∃ n f, S.1 a = some (.inl (cA, n, .inl f)) ∧ vp_in i n ∧ S' = mw_up S a (.inl (cA, n, .inl (upd f i.toNatClampNeg x))) := by
  unfold mw_si at h
  split at h
  · rename_i c n f e
    split at h
    · rename_i hc
      obtain ⟨rfl, hk⟩ := hc
      cases h
      exact ⟨n, f, e, hk, rfl⟩
    · cases h
  · cases h
theorem mw_sj_s {S S' : mw_M} {a : Nat} {cA : ClassId} {i : Int32} {x : Int64} (h : mw_sj S a cA i x = some S') : ∃ n f, S.1 a = some (.inl (cA, n, .inr (.inl f))) ∧ vp_in i n ∧ S' = mw_up S a (.inl (cA, n, .inr (.inl (vp_updL f i.toNatClampNeg x)))) := by
  unfold mw_sj at h
  split at h
  · rename_i c n f e
    split at h
    · rename_i hc
      obtain ⟨rfl, hk⟩ := hc
      cases h
      exact ⟨n, f, e, hk, rfl⟩
    · cases h
  · cases h
theorem mw_sq_s {S S' : mw_M} {a x ci : Nat} {cA : ClassId} {i : Int32} (h : mw_sq S a cA ci i x = some S') : ∃ n f vs, S.1 a = some (.inl (cA, n, .inr (.inr (.inr (.inr f))))) ∧ vp_in i n ∧ S.1 x = some (.inr (ci, vs)) ∧ S' = mw_up S a (.inl (cA, n, .inr (.inr (.inr (.inr (va_up f i.toNatClampNeg (some x))))))) := by
  unfold mw_sq at h
  split at h
  · rename_i c n f e
    split at h
    · rename_i hc
      obtain ⟨⟨rfl, hk⟩, ho⟩ := hc
      obtain ⟨vs, hv⟩ := mw_ob_s ho
      cases h
      exact ⟨n, f, vs, e, hk, hv, rfl⟩
    · cases h
  · cases h
theorem mw_al_s {S : mw_M} {a : Nat} {cA : ClassId} {v : Int32} (h : mw_al S a cA = some v) : ∃ x : vp_A, S.1 a = some (.inl (cA, x)) ∧ Int32.ofNat x.1 = v := by
  unfold mw_al at h
  split at h
  · rename_i c x e
    split at h
    · rename_i hc
      subst hc
      cases h
      exact ⟨x, e, rfl⟩
    · cases h
  · cases h
theorem mw_na_s {S S' : mw_M} {q cap : Nat} {cA : ClassId} {n : Int32} (h : mw_na S cA cap n = some (q, S')) : ¬ n < 0 ∧ n.toNatClampNeg ≤ cap ∧ q = S.2 ∧ S' = mw_ad S (.inl (cA, n.toNatClampNeg, .inl (fun _ => 0))) := by
  unfold mw_na at h
  split at h
  · rename_i hc
    cases h
    exact ⟨hc.1, hc.2, rfl, rfl⟩
  · cases h
theorem mw_nj_s {S S' : mw_M} {q cap : Nat} {cA : ClassId} {n : Int32} (h : mw_nj S cA cap n = some (q, S')) : ¬ n < 0 ∧ n.toNatClampNeg ≤ cap ∧ q = S.2 ∧ S' = mw_ad S (.inl (cA, n.toNatClampNeg, .inr (.inl (fun _ => 0)))) := by
  unfold mw_nj at h
  split at h
  · rename_i hc
    cases h
    exact ⟨hc.1, hc.2, rfl, rfl⟩
  · cases h
theorem mw_nq_s {S S' : mw_M} {q cap : Nat} {cA : ClassId} {n : Int32} (h : mw_nq S cA cap n = some (q, S')) : ¬ n < 0 ∧ n.toNatClampNeg ≤ cap ∧ q = S.2 ∧ S' = mw_ad S (.inl (cA, n.toNatClampNeg, .inr (.inr (.inr (.inr (fun _ => none)))))) := by
  unfold mw_nq at h
  split at h
  · rename_i hc
    cases h
    exact ⟨hc.1, hc.2, rfl, rfl⟩
  · cases h
/-! the world of a walk -/
def mw_P (D : va_G) (cl : List vw_C) (A : Nat → Prop) (S : mw_M) (H : Heap) : Prop := (∀ (a : Nat) (e : va_E), S.1 a = some e → va_at D cl (a, e) H ∧ A a) ∧ H.size = S.2
def mw_A (S : mw_M) : Nat → Prop := fun q => (∃ e, S.1 q = some e) ∨ S.2 ≤ q
def mw_K (D : va_G) (cl : List vw_C) (tys : List (ClassId × FieldType)) (aos : List String) (U : State) : Prop := va_K D cl tys U ∧ ∀ C ∈ aos, va_AO C U
def mw_W (D : va_G) (cl : List vw_C) (tys : List (ClassId × FieldType)) (aos : List String) (A : Nat → Prop) (s : State) (S : mw_M) (H : Heap) (locs : List Loc) : Prop := mw_P D cl A S H ∧ mw_K D cl tys aos s ∧ va_S A s.heap H locs ∧ ∀ q : Nat, s.heap.size ≤ q → A q
theorem mw_K.moved {D : va_G} {cl : List vw_C} {tys : List (ClassId × FieldType)} {aos : List String} {u U : State} (hvm : u.vm.Alike U.vm) (h : mw_K D cl tys aos u) : mw_K D cl tys aos U := ⟨h.1.moved hvm, fun C hC => (h.2 C hC).moved hvm⟩
theorem mw_P.one {D : va_G} {cl : List vw_C} {A : Nat → Prop} {S : mw_M} {H : Heap} {a : Nat} {e : va_E} (hP : mw_P D cl A S H) (h : S.1 a = some e) : va_P D cl [(a, e)] H := by
  intro k q hk
  have hz : k < 1 := (List.getElem?_eq_some_iff.mp hk).1
  rw [show k = 0 by omega] at hk
  cases hk
  exact (hP.1 a e h).1
theorem mw_P.wk {D : va_G} {cl : List vw_C} {A B : Nat → Prop} {S : mw_M} {H : Heap} (hP : mw_P D cl A S H) (hAB : ∀ q, A q → B q) : mw_P D cl B S H := ⟨fun a e h => ⟨(hP.1 a e h).1, hAB a (hP.1 a e h).2⟩, hP.2⟩
theorem mw_P.self {D : va_G} {cl : List vw_C} {A : Nat → Prop} {S : mw_M} {H : Heap} (hP : mw_P D cl A S H) : mw_P D cl (mw_A S) S H := ⟨fun a e h => ⟨(hP.1 a e h).1, Or.inl ⟨e, h⟩⟩, hP.2⟩
theorem mw_P.up {D : va_G} {cl : List vw_C} {A : Nat → Prop} {S : mw_M} {H H1 : Heap} {a : Nat} {e0 e : va_E} (hP : mw_P D cl A S H) (h0 : S.1 a = some e0) (he : va_at D cl (a, e) H1) (z : H1.size = H.size) (oq : ∀ q : Nat, q ≠ a → H1[q]? = H[q]?) : mw_P D cl A (mw_up S a e) H1 := by
  refine ⟨fun b f hb => ?_, z.trans hP.2⟩
  by_cases hba : b = a
  · subst hba
    have hf : f = e := by
      have h1 : (if b = b then some e else S.1 b) = some f := hb
      rw [if_pos rfl] at h1
      exact (Option.some.inj h1).symm
    subst hf
    exact ⟨he, (hP.1 b e0 h0).2⟩
  · have hb' : S.1 b = some f := by
      have h1 : (if b = a then some e else S.1 b) = some f := hb
      rw [if_neg hba] at h1
      exact h1
    exact ⟨(hP.1 b f hb').1.kept (oq b hba), (hP.1 b f hb').2⟩
theorem mw_W.up {D : va_G} {cl : List vw_C} {tys : List (ClassId × FieldType)} {aos : List String} {A : Nat → Prop} {s : State} {S : mw_M} {H H1 : Heap} {locs : List Loc} {a k : Nat} {e0 e : va_E} (hw : mw_W D cl tys aos A s S H locs) (h0 : S.1 a = some e0) (he : va_at D cl (a, e) H1) (z : H1.size = H.size) (oq : ∀ q : Nat, q ≠ a → H1[q]? = H[q]?) : mw_W D cl tys aos A s (mw_up S a e) H1 (locs ++ [⟨a, k⟩]) := ⟨hw.1.up h0 he z oq, hw.2.1, hw.2.2.1.put z oq (hw.1.1 a e0 h0).2, hw.2.2.2⟩
theorem mw_W.ad {D : va_G} {cl : List vw_C} {tys : List (ClassId × FieldType)} {aos : List String} {A : Nat → Prop} {s : State} {S : mw_M} {H H1 : Heap} {locs : List Loc} {e : va_E} (hw : mw_W D cl tys aos A s S H locs) (he : va_at D cl (H.size, e) H1) (z : H1.size = H.size + 1) (oq : ∀ q : Nat, q < H.size → H1[q]? = H[q]?) : mw_W D cl tys aos A s (mw_ad S e) H1 locs := by
  obtain ⟨hP, hK, hS, hA⟩ := hw
  refine ⟨⟨fun b f hb => ?_, by rw [z, hP.2]; rfl⟩, hK, ⟨Nat.le_trans hS.1 (by omega), fun x h1 h2 => (oq x (Nat.lt_of_lt_of_le h1 hS.1)).trans (hS.2.1 x h1 h2), hS.2.2⟩, hA⟩
  have h1 : (if b = S.2 then some e else S.1 b) = some f := hb
  by_cases hba : b = S.2
  · rw [if_pos hba] at h1
    cases h1
    rw [hba, ← hP.2]
    exact ⟨he, hA _ hS.1⟩
  · rw [if_neg hba] at h1
    exact ⟨(hP.1 b f h1).1.kept (oq b (hP.1 b f h1).1.lt), (hP.1 b f h1).2⟩
section MWR
variable {p : Program} {l : Launch} {e : Env} {R : Room} {s : State} {m : MethodId} {args : Array Value} {below : List Frame} {meth : Method} {c : Code} {H : Heap} {locs : List Loc} {cells slots : Nat} {Q : State → Prop}
variable {cc : ByteArray} {pc : Nat} {ls : Array Slot} {rest : List Value} {D : va_G} {cl : List vw_C} {A : Nat → Prop} {a : Nat} {tys : List (ClassId × FieldType)} {aos : List String} {S : mw_M}
theorem mw_get (hexec : p.tables.exec = Jvm.exec) (hb : c.code = cc) {own ref C : String} {T : u_T} {N ci index : Nat} {Ts : List Cond} (hts : ∀ w ∈ Ts, w.before args s = true) (hin : ∀ w ∈ u_ws C T N, w ∈ Ts) (hown : s.vm.findClass own = some m.cls) (hw : mw_W D cl tys aos A s S H locs) (hc : cl[ci]? = some (C, T, N)) (k : Nat) (hk : k < N) (hlink : (Cond.fieldLink own index ref (T k).2.1 (T k).2.2.1).before args s = true) (hsame : (T k).1 = ref) {v : Value} (hv : mw_gv S a ci k = some v) (hdg : decode cc pc = .ok (.getfield index, 3)) (kk : W p l e R s m args below meth c H locs cells slots Q (F0 m (pc + 3) ls (v :: rest))) : W p l e R s m args below meth c H locs cells slots Q (F0 m pc ls (.ref a :: rest)) := by
  obtain ⟨fs, h1, h2⟩ := mw_gv_s hv
  subst hsame
  exact va_get hexec hb hts hin hown hw.2.1.1 (hw.1.one h1) 0 rfl hc k hk hlink (fun _ h => h) h2 hdg kk
theorem mw_geti (hexec : p.tables.exec = Jvm.exec) (hb : c.code = cc) {own ref C : String} {T : u_T} {N ci index : Nat} {Ts : List Cond} (hts : ∀ w ∈ Ts, w.before args s = true) (hin : ∀ w ∈ u_ws C T N, w ∈ Ts) (hown : s.vm.findClass own = some m.cls) (hw : mw_W D cl tys aos A s S H locs) (hc : cl[ci]? = some (C, T, N)) (k : Nat) (hk : k < N) (hlink : (Cond.fieldLink own index ref (T k).2.1 (T k).2.2.1).before args s = true) (hsame : (T k).1 = ref) {v : Int32} (hv : mw_gi S a ci k = some v) (hdg : decode cc pc = .ok (.getfield index, 3)) (kk : W p l e R s m args below meth c H locs cells slots Q (F0 m (pc + 3) ls (.int v :: rest))) : W p l e R s m args below meth c H locs cells slots Q (F0 m pc ls (.ref a :: rest)) := mw_get hexec hb hts hin hown hw hc k hk hlink hsame (mw_gi_s hv) hdg kk
theorem mw_getr (hexec : p.tables.exec = Jvm.exec) (hb : c.code = cc) {own ref C : String} {T : u_T} {N ci index : Nat} {Ts : List Cond} (hts : ∀ w ∈ Ts, w.before args s = true) (hin : ∀ w ∈ u_ws C T N, w ∈ Ts) (hown : s.vm.findClass own = some m.cls) (hw : mw_W D cl tys aos A s S H locs) (hc : cl[ci]? = some (C, T, N)) (k : Nat) (hk : k < N) (hlink : (Cond.fieldLink own index ref (T k).2.1 (T k).2.2.1).before args s = true) (hsame : (T k).1 = ref) {v : Nat} (hv : mw_gr S a ci k = some v) (hdg : decode cc pc = .ok (.getfield index, 3)) (kk : W p l e R s m args below meth c H locs cells slots Q (F0 m (pc + 3) ls (.ref v :: rest))) : W p l e R s m args below meth c H locs cells slots Q (F0 m pc ls (.ref a :: rest)) := mw_get hexec hb hts hin hown hw hc k hk hlink hsame (mw_gr_s hv) hdg kk
theorem mw_put (hexec : p.tables.exec = Jvm.exec) (hb : c.code = cc) {own ref C : String} {T : u_T} {N ci index : Nat} {Ts : List Cond} (hts : ∀ w ∈ Ts, w.before args s = true) (hin : ∀ w ∈ u_ws C T N, w ∈ Ts) (ty0 : Nat → FieldType) (hty : ∀ k, k < N → parseFieldDescriptor (T k).2.2.1 = some (ty0 k)) (hnm : ∀ a, a < N → ∀ b, b < N → a ≠ b → (T a).2.1 ≠ (T b).2.1) (hown : s.vm.findClass own = some m.cls) (hw : mw_W D cl tys aos A s S H locs) (hc : cl[ci]? = some (C, T, N)) (k : Nat) (hk : k < N) (hlink : (Cond.fieldLink own index ref (T k).2.1 (T k).2.2.1).before args s = true) (hsame : (T k).1 = ref) (hfin : (T k).2.2.2 = false) {ty : FieldType} {v : Value} {S1 : mw_M} (hd : parseFieldDescriptor (T k).2.2.1 = some ty) (hn : narrow ty v = v) (hfit : fits ty v = true) (hv : mw_pf S a ci k v = some S1) (hdg : decode cc pc = .ok (.putfield index, 3)) (kk : ∀ (H1 : Heap) (locs1 : List Loc), mw_W D cl tys aos A s S1 H1 locs1 → W p l e R s m args below meth c H1 locs1 cells slots Q (F0 m (pc + 3) ls rest)) : W p l e R s m args below meth c H locs cells slots Q (F0 m pc ls (v :: .ref a :: rest)) := by
  subst hsame
  obtain ⟨fs, h0, hl, rfl⟩ := mw_pf_s hv
  have hK := hw.2.1.1
  have hap := va_apart (own := own) hts hin ty0 hty hnm hK hc
  obtain ⟨r, h1, cell, q1, q2, q3, q4⟩ := (hw.1.1 a _ h0).1
  have hr : r = (C, T, N) := Option.some.inj (h1.symm.trans hc)
  subst hr
  obtain ⟨hS, hfc, kC, hkC, hkind⟩ := hK.1 ci _ hc
  obtain ⟨cf, kf, fi, f, hi, hsl⟩ := hS k hk
  have hlay := hts _ (hin _ (u_in_lay hk))
  unfold u_lay at hlay
  rw [if_neg (by rw [hfin]; decide)] at hlay
  have hst := (u_facts hfc hkC (u_lays hts hin hk) hi).1
  have h6 := u_store hfc hkC hkind hlay hi hd hn hfit
  refine W.putK hexec hb (f := f) ⟨hown, hlink, ⟨_, _, _, hi⟩, hst⟩ (by rw [q2]; exact h6) q1 q3 (by rw [hsl]; exact k2_hasslot (q4 k hk)) rfl rfl hdg fun H' e1 e2 e3 => ?_
  rw [hsl] at e1 ⊢
  exact kk H' _ (hw.up h0 ⟨_, hc, t_OB.to (V := updV (vp_V fs) k v) ⟨_, e1, q2, q3, t_set q4 hap hk v⟩ (fun j _ => vp_updV_set hl v j)⟩ e2 e3)
theorem mw_putF (hexec : p.tables.exec = Jvm.exec) (hb : c.code = cc) {own ref C : String} {T : u_T} {N ci index : Nat} {Ts : List Cond} (hts : ∀ w ∈ Ts, w.before args s = true) (hin : ∀ w ∈ u_ws C T N, w ∈ Ts) (ty0 : Nat → FieldType) (hty : ∀ k, k < N → parseFieldDescriptor (T k).2.2.1 = some (ty0 k)) (hnm : ∀ a, a < N → ∀ b, b < N → a ≠ b → (T a).2.1 ≠ (T b).2.1) (hown : s.vm.findClass own = some m.cls) (hw : mw_W D cl tys aos A s S H locs) (hc : cl[ci]? = some (C, T, N)) (k : Nat) (hk : k < N) (hlink : (Cond.fieldLink own index ref (T k).2.1 (T k).2.2.1).before args s = true) (hsame : (T k).1 = ref) (hfin : (T k).2.2.2 = true) (hin2 : meth.name = "<init>") (hdecl : (T k).1 = own) {ty : FieldType} {v : Value} {S1 : mw_M} (hd : parseFieldDescriptor (T k).2.2.1 = some ty) (hn : narrow ty v = v) (hfit : fits ty v = true) (hv : mw_pf S a ci k v = some S1) (hdg : decode cc pc = .ok (.putfield index, 3)) (kk : ∀ (H1 : Heap) (locs1 : List Loc), mw_W D cl tys aos A s S1 H1 locs1 → W p l e R s m args below meth c H1 locs1 cells slots Q (F0 m (pc + 3) ls rest)) : W p l e R s m args below meth c H locs cells slots Q (F0 m pc ls (v :: .ref a :: rest)) := by
  subst hsame
  obtain ⟨fs, h0, hl, rfl⟩ := mw_pf_s hv
  have hK := hw.2.1.1
  have hap := va_apart (own := own) hts hin ty0 hty hnm hK hc
  obtain ⟨r, h1, cell, q1, q2, q3, q4⟩ := (hw.1.1 a _ h0).1
  have hr : r = (C, T, N) := Option.some.inj (h1.symm.trans hc)
  subst hr
  obtain ⟨hS, hfc, kC, hkC, hkind⟩ := hK.1 ci _ hc
  obtain ⟨cf, kf, fi, f, hi, hsl⟩ := hS k hk
  have hlay := hts _ (hin _ (u_in_lay hk))
  unfold u_lay at hlay
  rw [if_pos hfin] at hlay
  have hst := (u_facts hfc hkC (u_lays hts hin hk) hi).1
  have hcf : m.cls = cf := by
    obtain ⟨_, _, c', _, _, _, -, -, hf', -, -, -, hown2, -⟩ := Cond.laysFinal_spec hlay
    have e1 : c' = cf := by have := hi.symm.trans hf'; simp at this; exact this.1.symm
    rw [hdecl] at hown2
    rw [← e1]; exact Option.some.inj (hown.symm.trans hown2)
  have h6 := u_fits hfc hkC hkind (Or.inr hlay) hi hd hn hfit
  refine W.putFinK hexec hb hown hlink hi hst hcf hin2 (by rw [q2]; exact h6) q1 q3 (by rw [hsl]; exact k2_hasslot (q4 k hk)) rfl rfl hdg fun H' e1 e2 e3 => ?_
  rw [hsl] at e1 ⊢
  exact kk H' _ (hw.up h0 ⟨_, hc, t_OB.to (V := updV (vp_V fs) k v) ⟨_, e1, q2, q3, t_set q4 hap hk v⟩ (fun j _ => vp_updV_set hl v j)⟩ e2 e3)
theorem mw_iald (hexec : p.tables.exec = Jvm.exec) (hb : c.code = cc) (hw : mw_W D cl tys aos A s S H locs) (t0 : Nat) {cA : ClassId} (ht : tys[t0]? = some (cA, .int)) {i : Int32} {v : Int32} (hv : mw_ai S a cA i = some v) (hdg : decode cc pc = .ok (.iaload, 1)) (kk : W p l e R s m args below meth c H locs cells slots Q (F0 m (pc + 1) ls (.int v :: rest))) : W p l e R s m args below meth c H locs cells slots Q (F0 m pc ls (.int i :: .ref a :: rest)) := by
  obtain ⟨n, f, h1, h2, rfl⟩ := mw_ai_s hv
  exact va_iald hexec hb hw.2.1.1 (hw.1.one h1) 0 t0 rfl ht h2 hdg kk
theorem mw_bald (hexec : p.tables.exec = Jvm.exec) (hb : c.code = cc) (hw : mw_W D cl tys aos A s S H locs) (t0 : Nat) {cA : ClassId} (ht : tys[t0]? = some (cA, .byte)) {i : Int32} {v : Int32} (hv : mw_ai S a cA i = some v) (hdg : decode cc pc = .ok (.baload, 1)) (kk : W p l e R s m args below meth c H locs cells slots Q (F0 m (pc + 1) ls (.int v :: rest))) : W p l e R s m args below meth c H locs cells slots Q (F0 m pc ls (.int i :: .ref a :: rest)) := by
  obtain ⟨n, f, h1, h2, rfl⟩ := mw_ai_s hv
  exact va_bald hexec hb hw.2.1.1 (hw.1.one h1) 0 t0 rfl ht h2 hdg kk
theorem mw_zald (hexec : p.tables.exec = Jvm.exec) (hb : c.code = cc) (hw : mw_W D cl tys aos A s S H locs) (t0 : Nat) {cA : ClassId} (ht : tys[t0]? = some (cA, .boolean)) {i : Int32} {v : Int32} (hv : mw_ai S a cA i = some v) (hdg : decode cc pc = .ok (.baload, 1)) (kk : W p l e R s m args below meth c H locs cells slots Q (F0 m (pc + 1) ls (.int v :: rest))) : W p l e R s m args below meth c H locs cells slots Q (F0 m pc ls (.int i :: .ref a :: rest)) := by
  obtain ⟨n, f, h1, h2, rfl⟩ := mw_ai_s hv
  exact va_zald hexec hb hw.2.1.1 (hw.1.one h1) 0 t0 rfl ht h2 hdg kk
theorem mw_cald (hexec : p.tables.exec = Jvm.exec) (hb : c.code = cc) (hw : mw_W D cl tys aos A s S H locs) (t0 : Nat) {cA : ClassId} (ht : tys[t0]? = some (cA, .char)) {i : Int32} {v : Int32} (hv : mw_ai S a cA i = some v) (hdg : decode cc pc = .ok (.caload, 1)) (kk : W p l e R s m args below meth c H locs cells slots Q (F0 m (pc + 1) ls (.int v :: rest))) : W p l e R s m args below meth c H locs cells slots Q (F0 m pc ls (.int i :: .ref a :: rest)) := by
  obtain ⟨n, f, h1, h2, rfl⟩ := mw_ai_s hv
  exact va_cald hexec hb hw.2.1.1 (hw.1.one h1) 0 t0 rfl ht h2 hdg kk
theorem mw_lald (hexec : p.tables.exec = Jvm.exec) (hb : c.code = cc) (hw : mw_W D cl tys aos A s S H locs) (t0 : Nat) {cA : ClassId} (ht : tys[t0]? = some (cA, .long)) {i : Int32} {v : Int64} (hv : mw_aj S a cA i = some v) (hdg : decode cc pc = .ok (.laload, 1)) (kk : W p l e R s m args below meth c H locs cells slots Q (F0 m (pc + 1) ls (.long v :: rest))) : W p l e R s m args below meth c H locs cells slots Q (F0 m pc ls (.int i :: .ref a :: rest)) := by
  obtain ⟨n, f, h1, h2, rfl⟩ := mw_aj_s hv
  exact va_lald hexec hb hw.2.1.1 (hw.1.one h1) 0 t0 rfl ht h2 hdg kk
theorem mw_aald (hexec : p.tables.exec = Jvm.exec) (hb : c.code = cc) (hw : mw_W D cl tys aos A s S H locs) (t0 : Nat) {cA : ClassId} {C : String} (ht : tys[t0]? = some (cA, .object C)) {i : Int32} {v : Nat} (hv : mw_aq S a cA i = some v) (hdg : decode cc pc = .ok (.aaload, 1)) (kk : W p l e R s m args below meth c H locs cells slots Q (F0 m (pc + 1) ls (.ref v :: rest))) : W p l e R s m args below meth c H locs cells slots Q (F0 m pc ls (.int i :: .ref a :: rest)) := by
  obtain ⟨n, f, h1, h2, h3⟩ := mw_aq_s hv
  refine va_aldq hexec hb hw.2.1.1 (hw.1.one h1) 0 t0 rfl ht h2 hdg ?_
  rw [h3]
  exact kk
theorem mw_alen (hexec : p.tables.exec = Jvm.exec) (hb : c.code = cc) (hw : mw_W D cl tys aos A s S H locs) (t0 : Nat) {cA : ClassId} {ty : FieldType} (ht : tys[t0]? = some (cA, ty)) {v : Int32} (hv : mw_al S a cA = some v) (hdg : decode cc pc = .ok (.arraylength, 1)) (kk : W p l e R s m args below meth c H locs cells slots Q (F0 m (pc + 1) ls (.int v :: rest))) : W p l e R s m args below meth c H locs cells slots Q (F0 m pc ls (.ref a :: rest)) := by
  obtain ⟨x, h1, h2⟩ := mw_al_s hv
  exact va_alen hexec hb hw.2.1.1 (hw.1.one h1) 0 t0 rfl ht h2 hdg kk
theorem mw_iast (hexec : p.tables.exec = Jvm.exec) (hb : c.code = cc) (hw : mw_W D cl tys aos A s S H locs) (t0 : Nat) {cA : ClassId} (ht : tys[t0]? = some (cA, .int)) {i : Int32} {x : Int32} {S1 : mw_M} (hv : mw_si S a cA i x = some S1) (hdg : decode cc pc = .ok (.iastore, 1)) (kk : ∀ (H1 : Heap) (locs1 : List Loc), mw_W D cl tys aos A s S1 H1 locs1 → W p l e R s m args below meth c H1 locs1 cells slots Q (F0 m (pc + 1) ls rest)) : W p l e R s m args below meth c H locs cells slots Q (F0 m pc ls (.int x :: .int i :: .ref a :: rest)) := by
  obtain ⟨n, f, h1, hin, rfl⟩ := mw_si_s hv
  refine W.iast hexec hb (hw.1.1 a _ h1).1 ((hw.2.1.1.2 t0 _ ht).1 n (fun j => .int (f j))) (fun q => by cases q) (by show ¬ (i < 0 ∨ (arrV _ _ _).slots.size ≤ _); rw [arrV_size]; exact hin) rfl rfl hdg fun H1 e z oq => ?_
  refine kk H1 _ (hw.up h1 ?_ z oq)
  show H1[a]? = some (vp_cell _ _)
  rw [e]
  rw [vp_cell_i, vp_cell_i, arrV_store]
  congr 2
  funext q
  by_cases hq : q = i.toNatClampNeg
  · subst hq
    simp [updV, upd, vp_nar]
    try rfl
  · simp [updV, upd, hq]
theorem mw_bast (hexec : p.tables.exec = Jvm.exec) (hb : c.code = cc) (hw : mw_W D cl tys aos A s S H locs) (t0 : Nat) {cA : ClassId} (ht : tys[t0]? = some (cA, .byte)) {i : Int32} {x : Int32} {S1 : mw_M} (hv : mw_si S a cA i (vp_nar .byte x) = some S1) (hdg : decode cc pc = .ok (.bastore, 1)) (kk : ∀ (H1 : Heap) (locs1 : List Loc), mw_W D cl tys aos A s S1 H1 locs1 → W p l e R s m args below meth c H1 locs1 cells slots Q (F0 m (pc + 1) ls rest)) : W p l e R s m args below meth c H locs cells slots Q (F0 m pc ls (.int x :: .int i :: .ref a :: rest)) := by
  obtain ⟨n, f, h1, hin, rfl⟩ := mw_si_s hv
  refine W.bast hexec hb (hw.1.1 a _ h1).1 ((hw.2.1.1.2 t0 _ ht).1 n (fun j => .int (f j))) (fun q => by cases q) (by show ¬ (i < 0 ∨ (arrV _ _ _).slots.size ≤ _); rw [arrV_size]; exact hin) rfl rfl hdg fun H1 e z oq => ?_
  refine kk H1 _ (hw.up h1 ?_ z oq)
  show H1[a]? = some (vp_cell _ _)
  rw [e]
  rw [vp_cell_i, vp_cell_i, arrV_store]
  congr 2
  funext q
  by_cases hq : q = i.toNatClampNeg
  · subst hq
    simp [updV, upd, vp_nar]
    try rfl
  · simp [updV, upd, hq]
theorem mw_zast (hexec : p.tables.exec = Jvm.exec) (hb : c.code = cc) (hw : mw_W D cl tys aos A s S H locs) (t0 : Nat) {cA : ClassId} (ht : tys[t0]? = some (cA, .boolean)) {i : Int32} {x : Int32} {S1 : mw_M} (hv : mw_si S a cA i (vp_nar .boolean x) = some S1) (hdg : decode cc pc = .ok (.bastore, 1)) (kk : ∀ (H1 : Heap) (locs1 : List Loc), mw_W D cl tys aos A s S1 H1 locs1 → W p l e R s m args below meth c H1 locs1 cells slots Q (F0 m (pc + 1) ls rest)) : W p l e R s m args below meth c H locs cells slots Q (F0 m pc ls (.int x :: .int i :: .ref a :: rest)) := by
  obtain ⟨n, f, h1, hin, rfl⟩ := mw_si_s hv
  refine W.zast hexec hb (hw.1.1 a _ h1).1 ((hw.2.1.1.2 t0 _ ht).1 n (fun j => .int (f j))) (fun q => by cases q) (by show ¬ (i < 0 ∨ (arrV _ _ _).slots.size ≤ _); rw [arrV_size]; exact hin) rfl rfl hdg fun H1 e z oq => ?_
  refine kk H1 _ (hw.up h1 ?_ z oq)
  show H1[a]? = some (vp_cell _ _)
  rw [e]
  rw [vp_cell_i, vp_cell_i, arrV_store]
  congr 2
  funext q
  by_cases hq : q = i.toNatClampNeg
  · subst hq
    simp [updV, upd, vp_nar]
    try rfl
  · simp [updV, upd, hq]
theorem mw_cast (hexec : p.tables.exec = Jvm.exec) (hb : c.code = cc) (hw : mw_W D cl tys aos A s S H locs) (t0 : Nat) {cA : ClassId} (ht : tys[t0]? = some (cA, .char)) {i : Int32} {x : Int32} {S1 : mw_M} (hv : mw_si S a cA i (vp_nar .char x) = some S1) (hdg : decode cc pc = .ok (.castore, 1)) (kk : ∀ (H1 : Heap) (locs1 : List Loc), mw_W D cl tys aos A s S1 H1 locs1 → W p l e R s m args below meth c H1 locs1 cells slots Q (F0 m (pc + 1) ls rest)) : W p l e R s m args below meth c H locs cells slots Q (F0 m pc ls (.int x :: .int i :: .ref a :: rest)) := by
  obtain ⟨n, f, h1, hin, rfl⟩ := mw_si_s hv
  refine W.cast hexec hb (hw.1.1 a _ h1).1 ((hw.2.1.1.2 t0 _ ht).1 n (fun j => .int (f j))) (fun q => by cases q) (by show ¬ (i < 0 ∨ (arrV _ _ _).slots.size ≤ _); rw [arrV_size]; exact hin) rfl rfl hdg fun H1 e z oq => ?_
  refine kk H1 _ (hw.up h1 ?_ z oq)
  show H1[a]? = some (vp_cell _ _)
  rw [e]
  rw [vp_cell_i, vp_cell_i, arrV_store]
  congr 2
  funext q
  by_cases hq : q = i.toNatClampNeg
  · subst hq
    simp [updV, upd, vp_nar]
    try rfl
  · simp [updV, upd, hq]
theorem mw_last (hexec : p.tables.exec = Jvm.exec) (hb : c.code = cc) (hw : mw_W D cl tys aos A s S H locs) (t0 : Nat) {cA : ClassId} (ht : tys[t0]? = some (cA, .long)) {i : Int32} {x : Int64} {S1 : mw_M} (hv : mw_sj S a cA i x = some S1) (hdg : decode cc pc = .ok (.lastore, 1)) (kk : ∀ (H1 : Heap) (locs1 : List Loc), mw_W D cl tys aos A s S1 H1 locs1 → W p l e R s m args below meth c H1 locs1 cells slots Q (F0 m (pc + 1) ls rest)) : W p l e R s m args below meth c H locs cells slots Q (F0 m pc ls (.long x :: .int i :: .ref a :: rest)) := by
  obtain ⟨n, f, h1, hin, rfl⟩ := mw_sj_s hv
  refine W.last hexec hb (hw.1.1 a _ h1).1 ((hw.2.1.1.2 t0 _ ht).1 n (fun j => .long (f j))) (fun q => by cases q) (by show ¬ (i < 0 ∨ (arrV _ _ _).slots.size ≤ _); rw [arrV_size]; exact hin) rfl rfl hdg fun H1 e z oq => ?_
  refine kk H1 _ (hw.up h1 ?_ z oq)
  show H1[a]? = some (vp_cell _ _)
  rw [e]
  rw [vp_cell_l, vp_cell_l, arrV_store]
  congr 2
  funext q
  by_cases hq : q = i.toNatClampNeg
  · subst hq
    simp [updV, vp_updL, vp_nar]
    try rfl
  · simp [updV, vp_updL, hq]
theorem mw_aast (hexec : p.tables.exec = Jvm.exec) (hb : c.code = cc) (hw : mw_W D cl tys aos A s S H locs) (t0 ci : Nat) {cA : ClassId} {r : vw_C} (ht : tys[t0]? = some (cA, .object r.1)) (hc : cl[ci]? = some r) {i : Int32} {v : Nat} {S1 : mw_M} (hv : mw_sq S a cA ci i v = some S1) (hdg : decode cc pc = .ok (.aastore, 1)) (kk : ∀ (H1 : Heap) (locs1 : List Loc), mw_W D cl tys aos A s S1 H1 locs1 → W p l e R s m args below meth c H1 locs1 cells slots Q (F0 m (pc + 1) ls rest)) : W p l e R s m args below meth c H locs cells slots Q (F0 m pc ls (.ref v :: .int i :: .ref a :: rest)) := by
  obtain ⟨n, f, vs, h1, hin, hv2, rfl⟩ := mw_sq_s hv
  have hlt : i.toNatClampNeg < n := Nat.not_le.mp fun q => hin (Or.inr q)
  have h0 : ¬ i < 0 := fun q => hin (Or.inl q)
  obtain ⟨r', hr', cellV, g1, g2, g3, -⟩ := (hw.1.1 v _ hv2).1
  have hcls := (hw.2.1.1.1 ci r hc).2
  obtain ⟨kA, comp, k1, k2, k3, -⟩ := (hw.2.1.1.2 t0 _ ht).2
  have hcomp : comp = D.1 ci := Option.some.inj (k3.symm.trans hcls.1)
  subst hcomp
  obtain ⟨kC, hkC, -⟩ := hcls.2
  refine W.aast hexec hb (hw.1.1 a _ h1).1 (fun q h => by cases h) (fun h => by cases h) k1 k2 rfl hkC ⟨h0, by show _ < (arrV _ _ _).slots.size; rw [arrV_size]; exact hlt⟩ g1 (fun q h => by rw [g3] at h; cases h) (by rw [g2]; exact hkC) (by rw [g2]; exact va_assign hcls) rfl rfl hdg fun H1 e z oq => ?_
  refine kk H1 _ (hw.up h1 ?_ z oq)
  show H1[a]? = some (vp_cell _ _)
  rw [e]
  rw [vp_cell_q, vp_cell_q, arrV_store]
  congr 2
  funext q
  by_cases hq : q = i.toNatClampNeg
  · subst hq
    simp [updV, va_up, va_rf]
  · simp [updV, va_up, hq]
theorem mw_newc (hexec : p.tables.exec = Jvm.exec) (hb : c.code = cc) {own C : String} {T : u_T} {N ci index : Nat} {Ts : List Cond} (hts : ∀ w ∈ Ts, w.before args s = true) (hin : ∀ w ∈ u_ws C T N, w ∈ Ts) (ty : Nat → FieldType) (hty : ∀ k, k < N → parseFieldDescriptor (T k).2.2.1 = some (ty k)) (hown : s.vm.findClass own = some m.cls) (hcl : (Cond.classLink own index C).before args s = true) (hinst : (Cond.instantiable C N).before args s = true) (hini : (Cond.initialized C).before args s = true) (hw : mw_W D cl tys aos A s S H locs) (hc : cl[ci]? = some (C, T, N)) {fs : List Value} (hfs : ∀ j, j < N → defaultValue (ty j) = vp_V fs j) (hcells : cells + 1 ≤ R.cells) (hslots : slots + N ≤ R.slots) (hdg : decode cc pc = .ok (.new index, 3)) {q : Nat} {S1 : mw_M} (hv : mw_no S ci fs = some (q, S1)) (kk : ∀ H1 : Heap, mw_W D cl tys aos A s S1 H1 locs → W p l e R s m args below meth c H1 locs (cells + 1) (slots + N) Q (F0 m (pc + 3) ls (.ref q :: rest))) : W p l e R s m args below meth c H locs cells slots Q (F0 m pc ls rest) := by
  cases hv
  have hKn := hw.2.1.1.1 ci _ hc
  refine W.newcK hexec hb hown hcl hinst hini rfl hdg hcells hslots hKn.2.1 hw.1.2 fun H1 kC hkC e1 z1 o1 => ?_
  rw [← hw.1.2] at e1 z1 o1
  exact kk H1 (hw.ad ⟨_, hc, (u_born ty hts hin hKn hkC e1 hty).to hfs⟩ z1 o1)
theorem mw_newa (hexec : p.tables.exec = Jvm.exec) (hb : c.code = cc) {atype : ArrayType} (harr : (Cond.arrayClass (newarray.typeOf atype)).before args s = true) {ty : FieldType} (hty : newarray.typeOf atype = ty) (hdf : defaultValue ty = .int 0) (hw : mw_W D cl tys aos A s S H locs) (t0 : Nat) {cA : ClassId} (ht : tys[t0]? = some (cA, ty)) (hra : va_RA s cA ty = (s.vm.findClass ("[" ++ ty.toString) = some cA)) {n : Int32} {cap q : Nat} {S1 : mw_M} (hcap : cap * componentBytes ty ≤ 536870912) (hcells : cells + 1 ≤ R.cells) (hslots : slots + cap ≤ R.slots) (hv : mw_na S cA cap n = some (q, S1)) (hdg : decode cc pc = .ok (.newarray atype, 2)) (kk : ∀ H1 : Heap, mw_W D cl tys aos A s S1 H1 locs → W p l e R s m args below meth c H1 locs (cells + 1) (slots + cap) Q (F0 m (pc + 2) ls (.ref q :: rest))) : W p l e R s m args below meth c H locs cells slots Q (F0 m pc ls (.int n :: rest)) := by
  obtain ⟨hn, hle, rfl, rfl⟩ := mw_na_s hv
  subst hty
  refine va_newaK hexec hb harr rfl hdg rfl hn rfl (Nat.le_trans (Nat.mul_le_mul_right _ hle) hcap) hcells (Nat.le_trans (Nat.add_le_add_left hle _) hslots) hw.1.2 fun H1 cB e1 z1 o1 hAr hNm => ?_
  have hcB : cB = cA := by
    have h9 := (hw.2.1.1.2 t0 _ ht).2
    rw [hra] at h9
    exact Option.some.inj (hNm.symm.trans h9)
  subst hcB
  rw [← hw.1.2] at e1 z1 o1
  refine W.widen (Nat.le_refl _) (Nat.add_le_add_left hle _) (kk H1 (hw.ad ?_ z1 o1))
  show H1[H.size]? = some (vp_cell _ _)
  rw [e1, hdf]
  rfl
theorem mw_newj (hexec : p.tables.exec = Jvm.exec) (hb : c.code = cc) {atype : ArrayType} (harr : (Cond.arrayClass (newarray.typeOf atype)).before args s = true) {ty : FieldType} (hty : newarray.typeOf atype = ty) (hdf : defaultValue ty = .long 0) (hw : mw_W D cl tys aos A s S H locs) (t0 : Nat) {cA : ClassId} (ht : tys[t0]? = some (cA, ty)) (hra : va_RA s cA ty = (s.vm.findClass ("[" ++ ty.toString) = some cA)) {n : Int32} {cap q : Nat} {S1 : mw_M} (hcap : cap * componentBytes ty ≤ 536870912) (hcells : cells + 1 ≤ R.cells) (hslots : slots + cap ≤ R.slots) (hv : mw_nj S cA cap n = some (q, S1)) (hdg : decode cc pc = .ok (.newarray atype, 2)) (kk : ∀ H1 : Heap, mw_W D cl tys aos A s S1 H1 locs → W p l e R s m args below meth c H1 locs (cells + 1) (slots + cap) Q (F0 m (pc + 2) ls (.ref q :: rest))) : W p l e R s m args below meth c H locs cells slots Q (F0 m pc ls (.int n :: rest)) := by
  obtain ⟨hn, hle, rfl, rfl⟩ := mw_nj_s hv
  subst hty
  refine va_newaK hexec hb harr rfl hdg rfl hn rfl (Nat.le_trans (Nat.mul_le_mul_right _ hle) hcap) hcells (Nat.le_trans (Nat.add_le_add_left hle _) hslots) hw.1.2 fun H1 cB e1 z1 o1 hAr hNm => ?_
  have hcB : cB = cA := by
    have h9 := (hw.2.1.1.2 t0 _ ht).2
    rw [hra] at h9
    exact Option.some.inj (hNm.symm.trans h9)
  subst hcB
  rw [← hw.1.2] at e1 z1 o1
  refine W.widen (Nat.le_refl _) (Nat.add_le_add_left hle _) (kk H1 (hw.ad ?_ z1 o1))
  show H1[H.size]? = some (vp_cell _ _)
  rw [e1, hdf]
  rfl
theorem mw_newq (hexec : p.tables.exec = Jvm.exec) (hb : c.code = cc) {own C : String} {index : Nat} (hown : s.vm.findClass own = some m.cls) (hclink : (Cond.classLink own index C).before args s = true) (hao : C ∈ aos) (hw : mw_W D cl tys aos A s S H locs) (t0 : Nat) {cA : ClassId} (ht : tys[t0]? = some (cA, .object C)) {n : Int32} {cap q : Nat} {S1 : mw_M} (hcap : cap * 4 ≤ 536870912) (hcells : cells + 1 ≤ R.cells) (hslots : slots + cap ≤ R.slots) (hv : mw_nq S cA cap n = some (q, S1)) (hdg : decode cc pc = .ok (.anewarray index, 3)) (kk : ∀ H1 : Heap, mw_W D cl tys aos A s S1 H1 locs → W p l e R s m args below meth c H1 locs (cells + 1) (slots + cap) Q (F0 m (pc + 3) ls (.ref q :: rest))) : W p l e R s m args below meth c H locs cells slots Q (F0 m pc ls (.int n :: rest)) := by
  obtain ⟨hn, hle, rfl, rfl⟩ := mw_nq_s hv
  refine W.anew hexec hb hown hclink (va_AO.use (hw.2.1.2 C hao)) rfl hdg rfl hn (Nat.le_trans (Nat.mul_le_mul_right _ hle) hcap) hcells (Nat.le_trans (Nat.add_le_add_left hle _) hslots) fun cB kA comp f1 f2 f3 f4 => ?_
  have hcB : cB = cA := by
    obtain ⟨_, _, -, -, -, h9⟩ := (hw.2.1.1.2 t0 _ ht).2
    exact Option.some.inj (f1.symm.trans h9)
  subst hcB
  generalize hH1 : H.push ({ cls := cB, slots := Array.replicate n.toNatClampNeg .null, vm := .none } : Cell) = H1
  have z1 : H1.size = H.size + 1 := by rw [← hH1, Array.size_push]
  have e1 : H1[H.size]? = some (arrV cB n.toNatClampNeg (fun _ => .null)) := by rw [← hH1, Array.getElem?_push_size, ← arrV_new]
  have o1 : ∀ q : Nat, q < H.size → H1[q]? = H[q]? := fun q hq => by rw [← hH1, Array.getElem?_push, if_neg (Nat.ne_of_lt hq)]
  refine W.widen (Nat.le_refl _) (Nat.add_le_add_left hle _) ?_
  rw [hw.1.2]
  exact kk H1 (hw.ad e1 z1 o1)
end MWR
/-! a contract's start and end, and calls -/
def mw_B (D : va_G) (cl : List vw_C) (tys : List (ClassId × FieldType)) (aos : List String) (S : mw_M) (U : State) : Prop := mw_P D cl (fun _ => True) S U.heap ∧ mw_K D cl tys aos U
def mw_E (D : va_G) (cl : List vw_C) (tys : List (ClassId × FieldType)) (aos : List String) (A : Nat → Prop) (S : mw_M) (t : State) : Prop := mw_P D cl A S t.heap ∧ mw_K D cl tys aos t
abbrev mw_Qi (D : va_G) (cl : List vw_C) (tys : List (ClassId × FieldType)) (aos : List String) (A : Nat → Prop) (z : Int32 × mw_M) : Array Value → State → Outcome → State → Prop := va_Qi (fun r (_ : Unit) => r = z.1) (fun _ t => mw_E D cl tys aos A z.2 t) A
abbrev mw_Qr (D : va_G) (cl : List vw_C) (tys : List (ClassId × FieldType)) (aos : List String) (A : Nat → Prop) (z : Nat × mw_M) : Array Value → State → Outcome → State → Prop := va_Qr (fun (_ : Unit) => True) (fun _ r t => r = z.1 ∧ mw_E D cl tys aos A z.2 t) A
abbrev mw_Qv (D : va_G) (cl : List vw_C) (tys : List (ClassId × FieldType)) (aos : List String) (A : Nat → Prop) (z : mw_M) : Array Value → State → Outcome → State → Prop := va_Qv (fun (_ : Unit) => True) (fun _ t => mw_E D cl tys aos A z t) A
theorem mw_blind (D : va_G) (cl : List vw_C) (tys : List (ClassId × FieldType)) (aos : List String) (S : mw_M) (av : List Value) : FrameBlind (va_Pc av (mw_B D cl tys aos S)) := fun a U g mk q => ⟨q.1, q.2.1, q.2.2.moved (u := U) (U := U.calling g mk a) (Vm.Alike.refl U.vm)⟩
theorem mw_begin {D : va_G} {cl : List vw_C} {tys : List (ClassId × FieldType)} {aos : List String} {S : mw_M} {s : State} (h : mw_B D cl tys aos S s) : mw_W D cl tys aos (mw_A S) s S s.heap [] := ⟨h.1.self, h.2, va_S.rf, fun q hq => Or.inr (by rw [← h.1.2]; exact hq)⟩
def mw_C (p : Program) (s : State) (m : MethodId) (args : Array Value) (meth : Method) (c : Code) (cc : ByteArray) (own : String) (ret : Option FieldType) (Ts : List Cond) (nL : Nat) : Prop := p.tables.exec = Jvm.exec ∧ c.code = cc ∧ c.maxLocals = nL ∧ s.vm.findClass own = some m.cls ∧ (∀ w ∈ Ts, w.before args s = true) ∧ meth.sig.returnType = ret ∧ meth.locks = false
section MWC
variable {p : Program} {l : Launch} {e : Env} {R : Room} {s : State} {m : MethodId} {args : Array Value} {below : List Frame} {meth : Method} {c : Code} {H : Heap} {locs : List Loc} {cells slots : Nat} {Q : State → Prop}
variable {pc : Nat} {ls : Array Slot} {rest st0 : List Value} {D : va_G} {cl : List vw_C} {A : Nat → Prop} {tys : List (ClassId × FieldType)} {aos : List String} {S S1 : mw_M} {mc ms : Nat} {av : Array Value}
theorem mw_pre (hw : mw_W D cl tys aos A s S H locs) (av : List Value) : ∀ U : State, U.heap = H → s.WarmedH U.vm → va_Pc av (mw_B D cl tys aos S) av.toArray U := fun U hU hW => ⟨rfl, by rw [hU]; exact hw.1.wk (fun _ _ => trivial), hw.2.1.moved hW.alike⟩
theorem mw_in (hw : mw_W D cl tys aos A s S H locs) : ∀ q, mw_A S q → A q := fun q h => by
  rcases h with ⟨e, h⟩ | h
  · exact (hw.1.1 q e h).2
  · exact hw.2.2.2 q (Nat.le_trans hw.2.2.1.1 (by rw [hw.1.2]; exact h))
theorem mw_back {t : State} {H1 : Heap} {locs1 : List Loc} (hw : mw_W D cl tys aos A s S H locs) (ht : t.heap = H1) (hvm : s.vm.Alike t.vm) (hB : mw_E D cl tys aos (mw_A S) S1 t) (hS : va_S A s.heap H1 locs1) : mw_W D cl tys aos A s S1 H1 locs1 := ⟨by rw [← ht]; exact hB.1.wk (mw_in hw), hB.2.moved hvm.symm, hS, hw.2.2.2⟩
theorem mw_calli {r : Int32} (hr : va_Run p l e R s m args below meth c H locs cells slots mc ms (F0 m pc ls st0) rest ((mw_Qi D cl tys aos (mw_A S) (r, S1)) av) (mw_A S)) (hw : mw_W D cl tys aos A s S H locs) (kk : ∀ (H1 : Heap) (locs1 : List Loc), mw_W D cl tys aos A s S1 H1 locs1 → W p l e R s m args below meth c H1 locs1 (cells + mc) (slots + ms) Q (F0 m (pc + 3) ls (.int r :: rest))) : W p l e R s m args below meth c H locs cells slots Q (F0 m pc ls st0) :=
  va_calli hr hw.2.2.1 (fun q _ h => mw_in hw q h) (mw_in hw) (fun r' u t H1 locs1 ht hvm hp hB hz hk hS => by cases hp; exact kk H1 locs1 (mw_back hw ht hvm hB hS))
theorem mw_callr {r : Nat} (hr : va_Run p l e R s m args below meth c H locs cells slots mc ms (F0 m pc ls st0) rest ((mw_Qr D cl tys aos (mw_A S) (r, S1)) av) (mw_A S)) (hw : mw_W D cl tys aos A s S H locs) (kk : ∀ (H1 : Heap) (locs1 : List Loc), mw_W D cl tys aos A s S1 H1 locs1 → W p l e R s m args below meth c H1 locs1 (cells + mc) (slots + ms) Q (F0 m (pc + 3) ls (.ref r :: rest))) : W p l e R s m args below meth c H locs cells slots Q (F0 m pc ls st0) :=
  va_callr hr hw.2.2.1 (fun q _ h => mw_in hw q h) (mw_in hw) (fun u r' t H1 locs1 ht hvm hp hB hz hk hS => by obtain ⟨hr, hB⟩ := hB; cases hr; exact kk H1 locs1 (mw_back hw ht hvm hB hS))
theorem mw_callv (hr : va_Run p l e R s m args below meth c H locs cells slots mc ms (F0 m pc ls st0) rest ((mw_Qv D cl tys aos (mw_A S) S1) av) (mw_A S)) (hw : mw_W D cl tys aos A s S H locs) (kk : ∀ (H1 : Heap) (locs1 : List Loc), mw_W D cl tys aos A s S1 H1 locs1 → W p l e R s m args below meth c H1 locs1 (cells + mc) (slots + ms) Q (F0 m (pc + 3) ls rest)) : W p l e R s m args below meth c H locs cells slots Q (F0 m pc ls st0) :=
  va_callv hr hw.2.2.1 (fun q _ h => mw_in hw q h) (mw_in hw) (fun u t H1 locs1 ht hvm hp hB hz hk hS => kk H1 locs1 (mw_back hw ht hvm hB hS))
theorem mw_recv {b ci : Nat} {q : vw_C} (hw : mw_W D cl tys aos A s S H locs) (hc : cl[ci]? = some q) (h : ∃ fs, S.1 b = some (.inr (ci, fs))) : ∃ cell : Cell, H[b]? = some cell ∧ cell.vm.isStatics = false ∧ s.vm.findClass q.1 = some cell.cls := by
  obtain ⟨fs, h⟩ := h
  exact va_recv hw.2.1.1 (hw.1.one h) hc (q0 := 0) rfl
theorem mw_preV {b ci : Nat} {q : vw_C} {As : List Value} (hw : mw_W D cl tys aos A s S H locs) (hc : cl[ci]? = some q) (h : ∃ fs, S.1 b = some (.inr (ci, fs))) : PreV s H q.1 b (va_Pc (.ref b :: As) (mw_B D cl tys aos S)) As := ⟨mw_blind D cl tys aos S _, mw_recv hw hc h, mw_pre hw _⟩
theorem mw_preS {As : List Value} (hw : mw_W D cl tys aos A s S H locs) : PreS s H (va_Pc As (mw_B D cl tys aos S)) As := ⟨mw_blind D cl tys aos S _, mw_pre hw _⟩
variable {cc : ByteArray} {z : Int32 × mw_M} {zr : Nat × mw_M} {zv : mw_M}
theorem mw_end {t : State} (hw : mw_W D cl tys aos A s S H locs) (ht : t.heap = H) (hW : s.WarmedH t.vm) : mw_E D cl tys aos A S t := ⟨by rw [ht]; exact hw.1, hw.2.1.moved hW.alike⟩
theorem mw_iret {v : Int32} (hexec : p.tables.exec = Jvm.exec) (hb : c.code = cc) (hr : meth.sig.returnType = some .int) (hlocks : meth.locks = false) (hw : mw_W D cl tys aos A s S H locs) (hz : some (v, S) = some z) (hdg : decode cc pc = .ok (.ireturn, 1)) : W p l e R s m args below meth c H locs cells slots (MQ below (mw_Qi D cl tys aos A z) args s cells slots A) (F0 m pc ls [.int v]) := by
  cases hz
  exact W.iret hexec hb hr (fun t ht hW => ⟨⟨v, (), rfl, rfl, mw_end hw ht hW⟩, hw.2.2.1.F ht⟩) hw.2.2.1.2.2 hdg hlocks
theorem mw_zret {v : Int32} {ty : FieldType} (hexec : p.tables.exec = Jvm.exec) (hb : c.code = cc) (hr : meth.sig.returnType = some ty) (hlocks : meth.locks = false) (hw : mw_W D cl tys aos A s S H locs) (hty : narrow ty (.int v) = .int (vp_nar ty v)) (hz : (if vp_nar ty v = v then some (v, S) else none) = some z) (hdg : decode cc pc = .ok (.ireturn, 1)) : W p l e R s m args below meth c H locs cells slots (MQ below (mw_Qi D cl tys aos A z) args s cells slots A) (F0 m pc ls [.int v]) := by
  split at hz
  · rename_i hn
    cases hz
    exact W.zret hexec hb hr (by rw [hty, hn]) (fun t ht hW => ⟨⟨v, (), rfl, rfl, mw_end hw ht hW⟩, hw.2.2.1.F ht⟩) hw.2.2.1.2.2 hdg hlocks
  · cases hz
theorem mw_vret (hexec : p.tables.exec = Jvm.exec) (hb : c.code = cc) (hr : meth.sig.returnType = none) (hlocks : meth.locks = false) (hw : mw_W D cl tys aos A s S H locs) (hz : some S = some zv) (hdg : decode cc pc = .ok (.return_, 1)) : W p l e R s m args below meth c H locs cells slots (MQ below (mw_Qv D cl tys aos A zv) args s cells slots A) (F0 m pc ls []) := by
  cases hz
  exact W.vret hexec hb hr (fun t ht hW => ⟨⟨(), rfl, trivial, mw_end hw ht hW⟩, hw.2.2.1.F ht⟩) hw.2.2.1.2.2 hdg hlocks
theorem mw_aret {v : Nat} {n : String} (hexec : p.tables.exec = Jvm.exec) (hb : c.code = cc) (hr : meth.sig.returnType = some (.object n)) (hlocks : meth.locks = false) (hw : mw_W D cl tys aos A s S H locs) (hz : some (v, S) = some zr) (hdg : decode cc pc = .ok (.areturn, 1)) : W p l e R s m args below meth c H locs cells slots (MQ below (mw_Qr D cl tys aos A zr) args s cells slots A) (F0 m pc ls [.ref v]) := by
  cases hz
  exact W.aret hexec hb hr (Or.inl ⟨_, rfl⟩) (Or.inr ⟨_, rfl⟩) (fun t ht hW => ⟨⟨(), v, rfl, trivial, rfl, mw_end hw ht hW⟩, hw.2.2.1.F ht⟩) hw.2.2.1.2.2 hdg hlocks
end MWC
