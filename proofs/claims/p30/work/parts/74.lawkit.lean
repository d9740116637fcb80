/-! the law's own methods: their start, their calls, what a helper's answer says -/
section LWK
variable {p : Program} {l : Launch} {e : Env} {R : Room} {s : State} {m : MethodId} {args : Array Value} {below : List Frame} {meth : Method} {c : Code} {H : Heap} {locs : List Loc} {cells slots : Nat} {Q : State → Prop}
variable {cc : ByteArray} {D : va_G} {tys : List (ClassId × FieldType)} {A : Nat → Prop} {pc : Nat} {ls : Array Slot} {rest st0 : List Value} {ws wc wr : va_W}
theorem j_calliM {S : Type} {post : Int32 → S → Prop} {w1 : S → va_W} {mc ms : Nat} {a : Array Value} (hr : va_Run p l e R s m args below meth c H locs cells slots mc ms (F0 m pc ls st0) rest (va_Qi post (fun u t => jO D tys (va_A wc H.size) (w1 u) t) (va_A wc H.size) a) (va_A wc H.size)) (hA : ∀ q, s.heap.size ≤ q → A q) (hP : va_P D vwCl ws H) (hD : va_D A ws) (hS : va_S A s.heap H locs)
    (isC isR : List Nat) (hC : isC.map (fun i => ws[i]?) = wc.map some) (hR : isR.map (fun i => ws[i]?) = wr.map some) (hn : va_nd isR = true) (hdis : ∀ i ∈ isR, i ∉ isC)
    (kk : ∀ (r : Int32) (u : S) (H1 : Heap) (locs1 : List Loc), post r u → va_P D vwCl (wr ++ w1 u) H1 → va_D A (wr ++ w1 u) → va_S A s.heap H1 locs1 → W p l e R s m args below meth c H1 locs1 (cells + mc) (slots + ms) Q (F0 m (pc + 3) ls (.int r :: rest))) : W p l e R s m args below meth c H locs cells slots Q (F0 m pc ls st0) := by
  have hF := va_free (wc := wc) hD hS hA isC hC
  refine va_calli hr hS (fun q _ h => hF q h) hF (fun r u t H1 locs1 ht hvm hw hB hz1 hk1 hS1 => ?_)
  obtain ⟨hP1, hK1, hD1⟩ := hB
  rw [ht] at hP1
  obtain ⟨hP2, hD2⟩ := va_join (wr := wr) (w1 := w1 u) hP hD isC isR hC hR hn hdis hk1 hF hP1 hD1
  exact kk r u H1 locs1 hw hP2 hD2 hS1
theorem law_ld (hexec : p.tables.exec = Jvm.exec) (hb : c.code = cc) {b L : Nat} {xs : Nat → Int32} (hX : va_X b L xs s s.heap) (hbl : b < s.heap.size) (hbA : ¬ A b) (hS : va_S A s.heap H locs) {i v : Int32} (hin : vp_in i L) (hv : xs i.toNatClampNeg = v) (hdg : decode cc pc = .ok (.iaload, 1))
    (kk : W p l e R s m args below meth c H locs cells slots Q (F0 m (pc + 1) ls (.int v :: rest))) : W p l e R s m args below meth c H locs cells slots Q (F0 m pc ls (.int i :: .ref b :: rest)) := by
  subst hv
  exact va_sld hexec hb hX hbl hbA hS hin hdg kk
end LWK
theorem jy_of {l : Launch} {y : MethodName} {ws ws' : List Cond} {rm : Room} {D : va_G} {tys : List (ClassId × FieldType)} {wc : va_W} {av : List Value} {Qc : (Nat → Prop) → Array Value → State → Outcome → State → Prop} {cc : ByteArray} {maxL : Nat} {ret : Option FieldType} {sz : Nat} {own : String} {nm : String}
    (hy : plainName y.cls = true) (hw : ws = Cond.code y cc maxL ret :: ws') (ho : y.cls = own) (hn : y.name = nm) (hav : (lg_sl av).length ≤ maxL)
    (body : ∀ (p : Program) (e : Env) (s : State) (m : MethodId) (below : List Frame) (meth : Method) (c : Code) (A : Nat → Prop) (ls : Array Slot) (H : Heap) (locs : List Loc), jC p s m meth c cc maxL ret own ws D tys av.toArray A nm → jXs A s s.heap → va_P D vwCl wc H → va_D A wc → va_S A s.heap H locs → lv_has ls maxL (lv_args 0 av) → W p l e rm s m av.toArray below meth c H locs 0 0 (MQ below (Qc A) av.toArray s rm.cells rm.slots A) (F0 m 0 ls [])) :
    Met l y ws rm (va_Pc av (jXI D tys wc sz)) (Qc (va_A wc sz)) rm.cells rm.slots (va_A wc sz) := by
  refine Met.ofW (cc := cc) (maxL := maxL) (ret := ret) hy hw ?_
  intro p e s m args below meth c s₁ B hml hv
  obtain ⟨rfl, ⟨hsz, hP, hK, hD0, hN⟩, hXs⟩ := hv
  have hts := atoms_spec (ws := ws) B.pre
  have hown : s.vm.findClass own = some m.cls := by rw [← ho]; exact findClass_of_methodNamed B.named
  have hin : meth.name = nm := by rw [← hn]; exact (name_of_methodNamed B.named B.method).1
  subst hsz
  rw [lg_entry_eq]
  exact body p e s m below meth c _ _ _ _ ⟨B.exec, B.bytes, hml, hown, hts, hK, fun q h => Or.inr h, B.notSynchronized, B.returns, hin, hN⟩ hXs hP hD0.self va_S.rf (lv_entry av hav)
/-- a partner as the law sees it -/
def pv : Option Nat → Int32
  | none => -9999004
  | some v => nI v
theorem pv_neg {o : Option Nat} (ho : ∀ v, o = some v → v < 2 ^ 31) (h : ¬ (0 : Int32) ≤ pv o) : o = none := by
  cases o with
  | none => rfl
  | some v => exact absurd (nI_pos' (ho v rfl)) h
theorem pv_inj {o o2 : Option Nat} (ho : ∀ v, o = some v → v < 12) (ho2 : ∀ v, o2 = some v → v < 12) (h : pv o = pv o2) : o = o2 := by
  have key : ∀ v, v < 12 → ¬ nI v = (-9999004 : Int32) := by decide +kernel
  cases o with
  | none => cases o2 with
    | none => rfl
    | some v => exact absurd h.symm (key v (ho2 v rfl))
  | some w => cases o2 with
    | none => exact absurd h (key w (ho w rfl))
    | some v =>
      have a := ho w rfl
      have b := ho2 v rfl
      exact congrArg some ((nI_eq (by omega) (by omega)).mp h)
theorem phC31 {E : Nat → Nat → Bool} {nl nr : Nat} : phC E nl nr < 2 ^ 31 := by
  have hC12 := phc_le (E := E) (nl := nl) (nr := nr) 12 0
  have hC12 : phC E nl nr ≤ 12 := by simpa [phC] using hC12
  omega
theorem pv_ne {o : Option Nat} {v : Nat} (h : o = some v) (hv : v < 12) : ¬ pv o = (-9999004) := by
  have key : ∀ v, v < 12 → ¬ nI v = (-9999004 : Int32) := by decide +kernel
  rw [h]
  exact key v hv
theorem b2n_le (b : Bool) : b2n b ≤ 1 := by cases b <;> decide
theorem b2n_1 {b : Bool} (h : nI (b2n b) = nI 1) : b = true := by
  cases b with
  | true => rfl
  | false => exact absurd h (by decide)
theorem b2n_n1 {b : Bool} (h : ¬ nI (b2n b) = nI 1) : b = false := by
  cases b with
  | true => exact absurd rfl h
  | false => rfl
section RSV
variable {st t : St} {q0 : Nat → Nat} {x y r : Int32} {i j : Nat}
theorem jo_x (hx : ix (sNl st) x = none) (q : hP_joined st q0 x y t r) : t = st ∧ r = (-9999001) := by
  rcases q with ⟨ii, jj, a, b, -⟩ | ⟨et, -, er⟩ | ⟨et, ⟨ii, jj, a, b, c⟩, er⟩
  · rw [hx] at a
    cases a
  · exact ⟨et, er⟩
  · rw [hx] at a
    cases a
theorem jo_y (hy : ix (sNr st) y = none) (q : hP_joined st q0 x y t r) : t = st ∧ r = (-9999001) := by
  rcases q with ⟨ii, jj, a, b, -⟩ | ⟨et, -, er⟩ | ⟨et, ⟨ii, jj, a, b, c⟩, er⟩
  · rw [hy] at b
    cases b
  · exact ⟨et, er⟩
  · rw [hy] at b
    cases b
theorem pa_x (hx : ix (sNl st) x = none) (q : hP_parted st q0 x y t r) : t = st ∧ r = (-9999001) := by
  rcases q with ⟨ii, jj, a, b, -⟩ | ⟨et, -, er⟩ | ⟨et, ⟨ii, jj, a, b, c⟩, er⟩
  · rw [hx] at a
    cases a
  · exact ⟨et, er⟩
  · rw [hx] at a
    cases a
theorem pa_y (hy : ix (sNr st) y = none) (q : hP_parted st q0 x y t r) : t = st ∧ r = (-9999001) := by
  rcases q with ⟨ii, jj, a, b, -⟩ | ⟨et, -, er⟩ | ⟨et, ⟨ii, jj, a, b, c⟩, er⟩
  · rw [hy] at b
    cases b
  · exact ⟨et, er⟩
  · rw [hy] at b
    cases b
theorem jo_is (hx : ix (sNl st) x = some i) (hy : ix (sNr st) y = some j) (hE : sE st i j = true) (q : hP_joined st q0 x y t r) : t = st ∧ r = (-9999003) := by
  rcases q with ⟨ii, jj, a, b, c, -⟩ | ⟨-, o, -⟩ | ⟨et, -, er⟩
  · rw [hx] at a
    rw [hy] at b
    cases a
    cases b
    rw [hE] at c
    cases c
  · rcases o with o | o
    · rw [hx] at o; cases o
    · rw [hy] at o; cases o
  · exact ⟨et, er⟩
theorem jo_ok (hx : ix (sNl st) x = some i) (hy : ix (sNr st) y = some j) (hE : sE st i j = false) (q : hP_joined st q0 x y t r) : t = conS st i j q0 ∧ r = nI (b2n ((srch (adE (sE st) i j) (sL st) (sR st) (sNl st) (sNr st) q0).1.isSome)) := by
  rcases q with ⟨ii, jj, a, b, c, et, er⟩ | ⟨-, o, -⟩ | ⟨-, ⟨ii, jj, a, b, c⟩, -⟩
  · rw [hx] at a
    rw [hy] at b
    cases a
    cases b
    exact ⟨et, er⟩
  · rcases o with o | o
    · rw [hx] at o; cases o
    · rw [hy] at o; cases o
  · rw [hx] at a
    rw [hy] at b
    cases a
    cases b
    rw [hE] at c
    cases c
theorem pa_no (hx : ix (sNl st) x = some i) (hy : ix (sNr st) y = some j) (hE : sE st i j = false) (q : hP_parted st q0 x y t r) : t = st ∧ r = (-9999004) := by
  rcases q with ⟨ii, jj, a, b, c, -⟩ | ⟨-, o, -⟩ | ⟨et, -, er⟩
  · rw [hx] at a
    rw [hy] at b
    cases a
    cases b
    rw [hE] at c
    cases c
  · rcases o with o | o
    · rw [hx] at o; cases o
    · rw [hy] at o; cases o
  · exact ⟨et, er⟩
theorem pa_ok (hx : ix (sNl st) x = some i) (hy : ix (sNr st) y = some j) (hE : sE st i j = true) (q : hP_parted st q0 x y t r) : t = disS st i j q0 ∧ r = nI (b2n (if sL st i = some j then !(dcS (sE st) (sL st) (sR st) (sNl st) (sNr st) i j q0).1.isSome else false)) := by
  rcases q with ⟨ii, jj, a, b, c, et, er⟩ | ⟨-, o, -⟩ | ⟨-, ⟨ii, jj, a, b, c⟩, -⟩
  · rw [hx] at a
    rw [hy] at b
    cases a
    cases b
    exact ⟨et, er⟩
  · rcases o with o | o
    · rw [hx] at o; cases o
    · rw [hy] at o; cases o
  · rw [hx] at a
    rw [hy] at b
    cases a
    cases b
    rw [hE] at c
    cases c
theorem ha_x (hx : ix (sNl st) x = none) (q : hP_has st x y r) : r = (-9999001) := by
  rcases q with ⟨ii, jj, a, -⟩ | ⟨-, er⟩
  · rw [hx] at a
    cases a
  · exact er
theorem ha_at (hx : ix (sNl st) x = some i) (hy : ix (sNr st) y = some j) (q : hP_has st x y r) : r = nI (b2n (sE st i j)) := by
  rcases q with ⟨ii, jj, a, b, er⟩ | ⟨o, -⟩
  · rw [hx] at a
    rw [hy] at b
    cases a
    cases b
    exact er
  · rcases o with o | o
    · rw [hx] at o; cases o
    · rw [hy] at o; cases o
theorem ol_x (hx : ix (sNl st) x = none) (q : hP_ofLeft st x r) : r = (-9999001) := by
  rcases q with ⟨ii, vv, a, -⟩ | ⟨-, er⟩ | ⟨⟨ii, a, -⟩, -⟩
  · rw [hx] at a
    cases a
  · exact er
  · rw [hx] at a
    cases a
theorem ol_at (hx : ix (sNl st) x = some i) (q : hP_ofLeft st x r) : r = pv (sL st i) := by
  rcases q with ⟨ii, vv, a, b, er⟩ | ⟨a, -⟩ | ⟨⟨ii, a, b⟩, er⟩
  · rw [hx] at a
    cases a
    rw [b]
    exact er
  · rw [hx] at a
    cases a
  · rw [hx] at a
    cases a
    rw [b]
    exact er
theorem or_x (hx : ix (sNr st) x = none) (q : hP_ofRight st x r) : r = (-9999001) := by
  rcases q with ⟨ii, vv, a, -⟩ | ⟨-, er⟩ | ⟨⟨ii, a, -⟩, -⟩
  · rw [hx] at a
    cases a
  · exact er
  · rw [hx] at a
    cases a
theorem or_at (hx : ix (sNr st) x = some i) (q : hP_ofRight st x r) : r = pv (sR st i) := by
  rcases q with ⟨ii, vv, a, b, er⟩ | ⟨a, -⟩ | ⟨⟨ii, a, b⟩, er⟩
  · rw [hx] at a
    cases a
    rw [b]
    exact er
  · rw [hx] at a
    cases a
  · rw [hx] at a
    cases a
    rw [b]
    exact er
theorem de_x (hx : ix (phC (sE st) (sNl st) (sNr st)) x = none) (q : hP_depth st x r) : r = (-9999001) := by
  rcases q with ⟨ii, a, -⟩ | ⟨-, er⟩
  · rw [hx] at a
    cases a
  · exact er
theorem ph_x (hx : ix (phC (sE st) (sNl st) (sNr st)) x = none) (q : hP_paths st x r) : r = (-9999001) := by
  rcases q with ⟨ii, a, -⟩ | ⟨-, er⟩
  · rw [hx] at a
    cases a
  · exact er
theorem lpp_x (hx : ix (sNl st) x = none) (q : hP_leftPart st x r) : r = (-9999001) := by
  rcases q with ⟨ii, a, -⟩ | ⟨-, er⟩
  · rw [hx] at a
    cases a
  · exact er
theorem lpp_at (hx : ix (sNl st) x = some i) (q : hP_leftPart st x r) : r = nI (pL (sE st) (sL st) (sR st) (sNl st) (sNr st) i) := by
  rcases q with ⟨ii, a, er⟩ | ⟨a, -⟩
  · rw [hx] at a
    cases a
    exact er
  · rw [hx] at a
    cases a
theorem rp_x (hx : ix (sNr st) x = none) (q : hP_rightPart st x r) : r = (-9999001) := by
  rcases q with ⟨ii, a, -⟩ | ⟨-, er⟩
  · rw [hx] at a
    cases a
  · exact er
theorem rp_at (hx : ix (sNr st) x = some i) (q : hP_rightPart st x r) : r = nI (pR (sE st) (sL st) (sR st) (sNl st) (sNr st) i) := by
  rcases q with ⟨ii, a, er⟩ | ⟨a, -⟩
  · rw [hx] at a
    cases a
    exact er
  · rw [hx] at a
    cases a
theorem lc_x (hx : ix (sNl st) x = none) (q : hP_leftCover st x r) : r = (-9999001) := by
  rcases q with ⟨ii, a, -⟩ | ⟨-, er⟩
  · rw [hx] at a
    cases a
  · exact er
theorem lc_at (hx : ix (sNl st) x = some i) (q : hP_leftCover st x r) : r = nI (b2n (!LHl (sE st) (sL st) (sR st) (sNl st) i)) := by
  rcases q with ⟨ii, a, er⟩ | ⟨a, -⟩
  · rw [hx] at a
    cases a
    exact er
  · rw [hx] at a
    cases a
theorem rc_x (hx : ix (sNr st) x = none) (q : hP_rightCover st x r) : r = (-9999001) := by
  rcases q with ⟨ii, a, -⟩ | ⟨-, er⟩
  · rw [hx] at a
    cases a
  · exact er
theorem rc_at (hx : ix (sNr st) x = some i) (q : hP_rightCover st x r) : r = nI (b2n (LHr (sE st) (sL st) (sR st) (sNl st) i)) := by
  rcases q with ⟨ii, a, er⟩ | ⟨a, -⟩
  · rw [hx] at a
    cases a
    exact er
  · rw [hx] at a
    cases a
theorem fp_x (hx : ix (sNl st) x = none) (q : hP_finePart st x r) : r = (-9999001) := by
  rcases q with ⟨ii, a, -⟩ | ⟨-, er⟩ | ⟨⟨ii, a, -⟩, -⟩
  · rw [hx] at a
    cases a
  · exact er
  · rw [hx] at a
    cases a
theorem le_x (hx : ix (sNl st) x = none) (q : hP_leads st x y r) : r = (-9999001) := by
  rcases q with ⟨ii, jj, a, -⟩ | ⟨-, er⟩ | ⟨⟨ii, jj, a, -⟩, -⟩
  · rw [hx] at a
    cases a
  · exact er
  · rw [hx] at a
    cases a
theorem le_y (hy : ix (sNl st) y = none) (q : hP_leads st x y r) : r = (-9999001) := by
  rcases q with ⟨ii, jj, a, b, -⟩ | ⟨-, er⟩ | ⟨⟨ii, jj, a, b, -⟩, -⟩
  · rw [hy] at b
    cases b
  · exact er
  · rw [hy] at b
    cases b
theorem is_x (hx : ix (sNl st) x = none) (q : hP_inSome st x y r) : r = (-9999001) := by
  rcases q with ⟨ii, jj, a, -⟩ | ⟨-, er⟩ | ⟨⟨ii, jj, a, -⟩, -⟩
  · rw [hx] at a
    cases a
  · exact er
  · rw [hx] at a
    cases a
theorem is_y (hy : ix (sNr st) y = none) (q : hP_inSome st x y r) : r = (-9999001) := by
  rcases q with ⟨ii, jj, a, b, -⟩ | ⟨-, er⟩ | ⟨⟨ii, jj, a, b, -⟩, -⟩
  · rw [hy] at b
    cases b
  · exact er
  · rw [hy] at b
    cases b
theorem is_no (hx : ix (sNl st) x = some i) (hy : ix (sNr st) y = some j) (hE : sE st i j = false) (q : hP_inSome st x y r) : r = (-9999004) := by
  rcases q with ⟨ii, jj, a, b, c, -⟩ | ⟨o, -⟩ | ⟨-, er⟩
  · rw [hx] at a
    rw [hy] at b
    cases a
    cases b
    rw [hE] at c
    cases c
  · rcases o with o | o
    · rw [hx] at o; cases o
    · rw [hy] at o; cases o
  · exact er
theorem is_ok (hx : ix (sNl st) x = some i) (hy : ix (sNr st) y = some j) (hE : sE st i j = true) (q : hP_inSome st x y r) : r = nI (b2n (iSm (sE st) (sL st) (sR st) (sNl st) (sNr st) i j)) := by
  rcases q with ⟨ii, jj, a, b, c, er⟩ | ⟨o, -⟩ | ⟨⟨ii, jj, a, b, c⟩, -⟩
  · rw [hx] at a
    rw [hy] at b
    cases a
    cases b
    exact er
  · rcases o with o | o
    · rw [hx] at o; cases o
    · rw [hy] at o; cases o
  · rw [hx] at a
    rw [hy] at b
    cases a
    cases b
    rw [hE] at c
    cases c
theorem is_at (hx : ix (sNl st) x = some i) (hy : ix (sNr st) y = some j) (q : hP_inSome st x y r) : r = if sE st i j = true then nI (b2n (iSm (sE st) (sL st) (sR st) (sNl st) (sNr st) i j)) else (-9999004) := by
  by_cases hE : sE st i j = true
  · rw [if_pos hE]
    exact is_ok hx hy hE q
  · rw [if_neg hE]
    exact is_no hx hy (by simpa using hE) q
theorem ia_x (hx : ix (sNl st) x = none) (q : hP_inAll st x y r) : r = (-9999001) := by
  rcases q with ⟨ii, jj, a, -⟩ | ⟨-, er⟩ | ⟨⟨ii, jj, a, -⟩, -⟩
  · rw [hx] at a
    cases a
  · exact er
  · rw [hx] at a
    cases a
theorem ia_y (hy : ix (sNr st) y = none) (q : hP_inAll st x y r) : r = (-9999001) := by
  rcases q with ⟨ii, jj, a, b, -⟩ | ⟨-, er⟩ | ⟨⟨ii, jj, a, b, -⟩, -⟩
  · rw [hy] at b
    cases b
  · exact er
  · rw [hy] at b
    cases b
theorem ia_no (hx : ix (sNl st) x = some i) (hy : ix (sNr st) y = some j) (hE : sE st i j = false) (q : hP_inAll st x y r) : r = (-9999004) := by
  rcases q with ⟨ii, jj, a, b, c, -⟩ | ⟨o, -⟩ | ⟨-, er⟩
  · rw [hx] at a
    rw [hy] at b
    cases a
    cases b
    rw [hE] at c
    cases c
  · rcases o with o | o
    · rw [hx] at o; cases o
    · rw [hy] at o; cases o
  · exact er
theorem ia_ok (hx : ix (sNl st) x = some i) (hy : ix (sNr st) y = some j) (hE : sE st i j = true) (q : hP_inAll st x y r) : r = nI (b2n (iAl (sE st) (sL st) (sR st) (sNl st) (sNr st) i j)) := by
  rcases q with ⟨ii, jj, a, b, c, er⟩ | ⟨o, -⟩ | ⟨⟨ii, jj, a, b, c⟩, -⟩
  · rw [hx] at a
    rw [hy] at b
    cases a
    cases b
    exact er
  · rcases o with o | o
    · rw [hx] at o; cases o
    · rw [hy] at o; cases o
  · rw [hx] at a
    rw [hy] at b
    cases a
    cases b
    rw [hE] at c
    cases c
theorem ia_at (hx : ix (sNl st) x = some i) (hy : ix (sNr st) y = some j) (q : hP_inAll st x y r) : r = if sE st i j = true then nI (b2n (iAl (sE st) (sL st) (sR st) (sNl st) (sNr st) i j)) else (-9999004) := by
  by_cases hE : sE st i j = true
  · rw [if_pos hE]
    exact ia_ok hx hy hE q
  · rw [if_neg hE]
    exact ia_no hx hy (by simpa using hE) q
theorem nl_full (hx : ¬ sNl st < 12) (q : hP_newLeft st t r) : t = st ∧ r = (-9999003) := by
  rcases q with ⟨a, -⟩ | ⟨et, -, er⟩
  · exact absurd a hx
  · exact ⟨et, er⟩
theorem nl_ok (hx : sNl st < 12) (q : hP_newLeft st t r) : t = alS st ∧ r = nI (sNl st) := by
  rcases q with ⟨-, et, er⟩ | ⟨-, a, -⟩
  · exact ⟨et, er⟩
  · omega
theorem nr_full (hx : ¬ sNr st < 12) (q : hP_newRight st t r) : t = st ∧ r = (-9999003) := by
  rcases q with ⟨a, -⟩ | ⟨et, -, er⟩
  · exact absurd a hx
  · exact ⟨et, er⟩
theorem nr_ok (hx : sNr st < 12) (q : hP_newRight st t r) : t = arS st ∧ r = nI (sNr st) := by
  rcases q with ⟨-, et, er⟩ | ⟨-, a, -⟩
  · exact ⟨et, er⟩
  · omega
end RSV
