/-! THE CLAIM OUT OF ONE WALK OF THE LAW'S BODY. Your part is whole_start (and what it stands on); all else here is the same for every law, but numbers. -/
def R_law : String := "MortarShowLaw"
def lw_P (b : Addr) (xs : List Int32) (args : Array Value) (s : State) : Prop := args = #[.ref b] ∧ s.IntsAt b xs ∧ xs.length ≤ 2560 ∧ (Jvm.Cond.and given_1 narrow_1).before args s = true
def lw_Q (_ : Array Value) (s : State) (o : Outcome) (t : State) : Prop := o = .returned (some (.int 1)) ∧ Framed s o t [] 601024 7293034
def lw_Z (below : List Frame) (a : Array Value) (s : State) : State → Prop := fun t => ∃ o, t.status = .running ∧ Ended t below o ∧ lw_Q a s o t
/-- the law's own end, with 1 on the stack, nothing written that was there before, its room as the claim has it -/
theorem lw_ret {p : Program} {l : Launch} {e : Env} {s : State} {m : MethodId} {below : List Frame} {meth : Method} {c : Code} {b : Nat} (hx : p.tables.exec = Jvm.exec) (hb : c.code = code) (hr : meth.sig.returnType = ret) (hlocks : meth.locks = false) {pc : Nat} {H : Heap} {ls : Array Slot} (hdg : decode code pc = .ok (.ireturn, 1)) : W p l e room_1 s m #[Value.ref b] below meth c H [] 601024 7293034 (lw_Z below #[Value.ref b] s) (F0 m pc ls [.int 1]) := by
  intro T hT X
  obtain ⟨fs, hret, hrun, hended, hW, hframe⟩ := X.leave (v := some (.int 1)) (hlocks := hlocks) (fun h => by rw [hr] at h; cases h)
  have hmeth' : T.vm.method? m = some meth := X.method'
  refine ⟨T.setFrames fs, ?_, .returned (some (.int 1)), hrun, hended, rfl, ⟨_, rfl⟩, hW, hframe⟩
  jvm_step X.here [X.here.top, hx, hb, hdg, hmeth', hr, ret, narrow_b1]
  (try refine ⟨rfl, ?_⟩); (try refine ⟨rfl, ?_⟩)
  first | (intro acts; rw [hret _ acts rfl rfl rfl]) | rw [hret _ _ rfl rfl rfl]
  exact Steps.refl _
/-- what holds at the law's entry: the machine, the code, the tables' words (any of lw_tbl by 'hts w (by decide +kernel)'), the script of L ints xs at the cell b, what the Statement gives of the start (any of its parts by flat_of_before) -/
def lw_At (p : Program) (s : State) (m : MethodId) (meth : Method) (c : Code) (b L : Nat) (xs : Nat → Int32) : Prop :=
  p.tables.exec = Jvm.exec ∧ c.code = code ∧ meth.sig.returnType = ret ∧ c.maxLocals = 8 ∧ s.vm.findClass R_law = some m.cls ∧ (∀ w ∈ lw_tbl, w.before #[Value.ref b] s = true) ∧ va_X b L xs s s.heap ∧ b < s.heap.size ∧ meth.locks = false ∧ (Jvm.Cond.and given_1 narrow_1).before #[Value.ref b] s = true

/-! One order alone. -/
theorem srt_le {σ : AS} {q q' : Nat → Nat} {c c' : Nat} (h : Srt σ 40 q c) (h' : Srt σ 40 q' c') : ∀ J, J ≤ c → J ≤ c' ∧ ∀ j, j < J → q j = q' j
  | 0, _ => ⟨Nat.zero_le _, fun j hj => absurd hj (Nat.not_lt_zero j)⟩
  | J + 1, hJ => by
    obtain ⟨i1, i2⟩ := srt_le h h' J (by omega)
    have hq := h.1 J (by omega)
    obtain ⟨j', hj', e'⟩ := h'.2.1 (q J) hq.1 hq.2
    have l1 : J ≤ j' := by
      rcases Nat.lt_or_ge j' J with z | z
      · exfalso
        exact q_inj h z (by omega) (by rw [i2 j' z, e'])
      · exact z
    have e2' : j' = J := by
      rcases Nat.lt_or_ge J j' with z | z
      · exfalso
        have hq2 := h'.1 J (by omega)
        obtain ⟨j2, hj2, e2'⟩ := h.2.1 (q' J) hq2.1 hq2.2
        have l2 : J ≤ j2 := by
          rcases Nat.lt_or_ge j2 J with y | y
          · exfalso
            exact q_inj h' y (by omega) (by rw [← i2 j2 y, e2'])
          · exact y
        have hb := h'.2.2.1 J j' z hj'
        rw [e'] at hb
        rcases Nat.lt_or_ge J j2 with y | y
        · have hb2 := h.2.2.1 J j2 y hj2
          rw [e2'] at hb2
          exact bef_asym hb hb2
        · have : j2 = J := by omega
          rw [this] at e2'
          rw [← e2'] at hb
          exact bef_irr hb
      · omega
    subst e2'
    refine ⟨by omega, fun j hj => ?_⟩
    rcases Nat.lt_or_ge j j' with z | z
    · exact i2 j z
    · rw [show j = j' by omega]; exact e'.symm
theorem srt_uni {σ : AS} {q q' : Nat → Nat} {c c' : Nat} (h : Srt σ 40 q c) (h' : Srt σ 40 q' c') : c = c' ∧ ∀ j, j < c → q j = q' j := by
  obtain ⟨a1, a2⟩ := srt_le h h' c (Nat.le_refl _)
  obtain ⟨b1, -⟩ := srt_le h' h c' (Nat.le_refl _)
  exact ⟨by omega, a2⟩
theorem gvn_cg {σ : AS} {q q' : Nat → Nat} {c : Nat} (e : ∀ j, j < c → q j = q' j) : ∀ k, k ≤ c → gvn σ q k = gvn σ q' k
  | 0, _ => rfl
  | k + 1, hk => by
    have ih := gvn_cg (σ := σ) e k (by omega)
    rw [gvn_s, gvn_s]
    unfold chq
    rw [ih, e k (by omega)]
theorem chq_cg {σ : AS} {q q' : Nat → Nat} {c : Nat} (e : ∀ j, j < c → q j = q' j) {k : Nat} (hk : k < c) : chq σ q k = chq σ q' k := by
  unfold chq
  rw [gvn_cg (σ := σ) e k (by omega), e k hk]
theorem lit_cg {σ : AS} {q q' : Nat → Nat} {c : Nat} (e : ∀ j, j < c → q j = q' j) : ∀ k, k ≤ c → lit σ q k = lit σ q' k
  | 0, _ => rfl
  | k + 1, hk => by rw [lit_s, lit_s, lit_cg e k (by omega), chq_cg e (by omega)]
theorem posQ_cg {q q' : Nat → Nat} {c i : Nat} (e : ∀ j, j < c → q j = q' j) : posQ q c i = posQ q' c i := firstB_cong (fun d hd => by rw [e d hd])
theorem posQ_lt {q : Nat → Nat} {c i j : Nat} (h : posQ q c i = some j) : j < c := (firstB_some h).1
theorem fateA_cg {σ : AS} {q q' : Nat → Nat} {c i : Nat} (e : ∀ j, j < c → q j = q' j) : fateA σ q c i = fateA σ q' c i := by
  unfold fateA
  rw [← posQ_cg e]
  cases h : posQ q c i with
  | none => rfl
  | some j => unfold fatP; dsimp only; rw [chq_cg e (posQ_lt h)]
theorem chanA_cg {σ : AS} {q q' : Nat → Nat} {c i : Nat} (e : ∀ j, j < c → q j = q' j) : chanA σ q c i = chanA σ q' c i := by
  unfold chanA
  rw [← posQ_cg e]
  cases h : posQ q c i with
  | none => rfl
  | some j => unfold chaP; dsimp only; rw [chq_cg e (posQ_lt h)]
theorem firA_cg {σ : AS} {q q' : Nat → Nat} {c : Nat} (e : ∀ j, j < c → q j = q' j) (n : Nat) : firA σ q c n = firA σ q' c n := by
  unfold firA
  have h1 : frP σ q c n = frP σ q' c n := firstB_cong (fun d hd => by rw [lit_cg e d (by omega), chq_cg e hd])
  rw [← h1]
  cases h : frP σ q c n with
  | none => rfl
  | some j => exact e j (firstB_some h).1
theorem totA_cg {σ : AS} {v : VT} {q q' : Nat → Nat} {c : Nat} (e : ∀ j, j < c → q j = q' j) : ∀ k, totA σ v q c k = totA σ v q' c k
  | 0 => rfl
  | k + 1 => by unfold totA; rw [totA_cg e k, firA_cg e k]
theorem prA_cg {σ : AS} {v : VT} {q q' : Nat → Nat} {c i : Nat} (e : ∀ j, j < c → q j = q' j) : prA σ v q c i = prA σ v q' c i := by
  unfold prA
  rw [fateA_cg e]
/-- a thing that an order tells -/
theorem ord_eq {σ : AS} {α : Type} {F : (Nat → Nat) → Nat → α} {x y : α} (hF : ∀ q q' c, (∀ j, j < c → q j = q' j) → F q c = F q' c) (h1 : ∃ q c, Srt σ 40 q c ∧ x = F q c) (h2 : ∃ q c, Srt σ 40 q c ∧ y = F q c) : x = y := by
  obtain ⟨q, c, s1, e1'⟩ := h1
  obtain ⟨q', c', s2, e2'⟩ := h2
  obtain ⟨hc, hq⟩ := srt_uni s1 s2
  subst hc
  rw [e1', e2']
  exact hF q q' c hq
/-! What a case leaves. -/
theorem lg_self (z : Int64) : lg_cmp z z = 0 := by
  unfold lg_cmp
  rw [if_neg (fun h => absurd h (by rw [gt_iff_lt, Int64.lt_iff_toInt_lt]; omega)), if_pos rfl]
theorem XX.mo {σ : AS} {v : VT} {M M' : MS} (h : XX σ v M) (o : oI moS M M') : XX σ v M' := h.fr o.oA (fun p k z => by unfold moS at z; omega)
def KPm (M M1' : MS) : Prop := ∀ p k, 60 ≤ p → p ≤ 84 → gI M1' p k = gI M p k
theorem law_one {σ σ1 : AS} {v v1 : VT} {M M1' M2' : MS} {G : Bool} {P Rb : Prop} {k : Int32} {bl : Int64} (h1 : KPm M M1' ∧ ((k = 0 ∧ XX σ1 v1 M1' ∧ G = true ∧ P) ∨ (k = 1 ∧ G = false ∧ XX σ v M1')))
    (h2 : oI moS M1' M2' ∧ gI M2' 60 28 = nI (thr G true) ∧ (G = false → MX σ v M2') ∧ (G = true → MX σ1 v1 M2' ∧ Rb)) (hu : P → Rb → gL M1' 90 0 = bl) (hn : aN σ1 = aN σ) :
    gI M2' 60 28 = k ∧ (k = 0 → gL M2' 90 0 = bl) ∧ ∃ σ9 v9, aN σ9 = aN σ ∧ XX σ9 v9 M2' ∧ MX σ9 v9 M2' := by
  obtain ⟨a1, a2⟩ := h1
  obtain ⟨b1, b2, b3, b4⟩ := h2
  rcases a2 with ⟨k0', x0', g0, p0'⟩ | ⟨k0', g0, x0'⟩
  · refine ⟨by rw [b2, g0, k0']; rfl, fun _ => by rw [b1.lg]; exact hu p0' (b4 g0).2, σ1, v1, hn, x0'.mo b1, (b4 g0).1⟩
  · refine ⟨by rw [b2, g0, k0']; rfl, fun z => by rw [k0'] at z; exact absurd z (by decide), σ, v, rfl, x0'.mo b1, b3 g0⟩
theorem law_two {σ : AS} {v : VT} {M M1' M2' : MS} {G1 G2 : Bool} {P Rb : Prop} {k : Int32} {bl : Int64} (h1 : KPm M M1' ∧ XX σ v M1' ∧ ((k = 0 ∧ G1 = true ∧ G2 = true ∧ P) ∨ (k = 1 ∧ G1 = false) ∨ (k = 2 ∧ G1 = true ∧ G2 = false)))
    (h2 : oI moS M1' M2' ∧ gI M2' 60 28 = nI (thr G1 G2) ∧ MX σ v M2' ∧ (G1 = true → G2 = true → Rb)) (hu : P → Rb → gL M1' 90 0 = bl) :
    gI M2' 60 28 = k ∧ (k = 0 → gL M2' 90 0 = bl) ∧ ∃ σ9 v9, aN σ9 = aN σ ∧ XX σ9 v9 M2' ∧ MX σ9 v9 M2' := by
  obtain ⟨a1, a2, a3⟩ := h1
  obtain ⟨b1, b2, b3, b4⟩ := h2
  refine ⟨?_, fun z => ?_, σ, v, rfl, a2.mo b1, b3⟩
  · rw [b2]
    rcases a3 with ⟨k0', g1, g2, -⟩ | ⟨k0', g1⟩ | ⟨k0', g1, g2⟩
    · rw [g1, g2, k0']; rfl
    · rw [g1, k0']; rfl
    · rw [g1, g2, k0']; rfl
  · rcases a3 with ⟨k0', g1, g2, p0'⟩ | ⟨k0', g1⟩ | ⟨k0', g1, g2⟩
    · rw [b1.lg]; exact hu p0' (b4 g1 g2)
    · rw [k0'] at z; exact absurd z (by decide)
    · rw [k0'] at z; exact absurd z (by decide)
theorem law_fir {σ : AS} {v : VT} {M M1' M2' : MS} {a k b : Int32} (h1 : KPm M M1' ∧ XX σ v M1' ∧ ((k = 0 ∧ ∃ x, (∃ q c, Srt σ 40 q c ∧ fiB (lit σ q c) a = true ∧ x = nI (firA σ q c (n1 a))) ∧ gL M1' 90 0 = x.toInt64) ∨ (k = 1 ∧ ∃ q c, Srt σ 40 q c ∧ fiB (lit σ q c) a = false)))
    (h2 : oI moS M1' M2' ∧ MX σ v M2' ∧ ∃ q c, Srt σ 40 q c ∧ gI M2' 60 28 = nI (thr (fiB (lit σ q c) a) true) ∧ (fiB (lit σ q c) a = true → b = nI (firA σ q c (n1 a)))) :
    gI M2' 60 28 = k ∧ (k = 0 → gL M2' 90 0 = b.toInt64) ∧ ∃ σ9 v9, aN σ9 = aN σ ∧ XX σ9 v9 M2' ∧ MX σ9 v9 M2' := by
  obtain ⟨a1, a2, a3⟩ := h1
  obtain ⟨b1, b2, q', c', s2, b3, b4⟩ := h2
  refine ⟨?_, fun z => ?_, σ, v, rfl, a2.mo b1, b2⟩
  · rw [b3]
    rcases a3 with ⟨k0', x, ⟨q, c, s1, f1, -⟩, -⟩ | ⟨k0', q, c, s1, f1⟩
    · obtain ⟨hc, hq⟩ := srt_uni s1 s2
      subst hc
      rw [← lit_cg hq c (Nat.le_refl _), f1, k0']; rfl
    · obtain ⟨hc, hq⟩ := srt_uni s1 s2
      subst hc
      rw [← lit_cg hq c (Nat.le_refl _), f1, k0']; rfl
  · rcases a3 with ⟨k0', x, ⟨q, c, s1, f1, f2⟩, f3⟩ | ⟨k0', -⟩
    · obtain ⟨hc, hq⟩ := srt_uni s1 s2
      subst hc
      have h9 := b4 (by rw [← lit_cg hq c (Nat.le_refl _)]; exact f1)
      rw [b1.lg, f3, f2, h9, firA_cg hq]
    · rw [k0'] at z; exact absurd z (by decide)
theorem law_cue {σ σ1 : AS} {v : VT} {M M1' M2' : MS} {sh1 : Nat → Option Sh} {G1 : Bool} {k b : Int32} (h1 : KPm M M1' ∧ ((k = 0 ∧ sh1 = shL (aN σ + 1) ∧ XX σ1 v M1' ∧ G1 = true ∧ aN σ < 40 ∧ ∃ x, x = nI (aN σ) ∧ gL M1' 90 0 = x.toInt64) ∨ (sh1 = shL (aN σ) ∧ XX σ v M1' ∧ ((k = 1 ∧ G1 = false) ∨ (k = 2 ∧ G1 = true ∧ decide (aN σ < 40) = false)))))
    (h2 : oI moS M1' M2' ∧ gI M2' 60 28 = nI (thr G1 (decide (aN σ < 40))) ∧ ((G1 && decide (aN σ < 40)) = false → MX σ v M2') ∧ ((G1 && decide (aN σ < 40)) = true → MX σ1 v M2' ∧ b = nI (aN σ))) (hn : aN σ1 = aN σ + 1) :
    gI M2' 60 28 = k ∧ (k = 0 → gL M2' 90 0 = b.toInt64) ∧ ∃ σ9 v9, sh1 = shL (aN σ9) ∧ XX σ9 v9 M2' ∧ MX σ9 v9 M2' := by
  obtain ⟨a1, a2⟩ := h1
  obtain ⟨b1, b2, b3, b4⟩ := h2
  rcases a2 with ⟨k0', e0', x0', g0, l0, x, ex, p0'⟩ | ⟨e0', x0', z0⟩
  · have h9 := b4 (by rw [g0, decide_eq_true l0]; rfl)
    refine ⟨by rw [b2, g0, k0', decide_eq_true l0]; rfl, fun _ => by rw [b1.lg, p0', h9.2, ex], σ1, v, by rw [hn]; exact e0', x0'.mo b1, h9.1⟩
  · have h9 : (G1 && decide (aN σ < 40)) = false := by
      rcases z0 with ⟨-, g⟩ | ⟨-, g, g2⟩
      · rw [g]; rfl
      · rw [g, g2]; rfl
    refine ⟨?_, fun z => ?_, σ, v, e0', x0'.mo b1, b3 h9⟩
    · rcases z0 with ⟨k0', g⟩ | ⟨k0', g, g2⟩
      · rw [b2, g, k0']; rfl
      · rw [b2, g, g2, k0']; rfl
    · rcases z0 with ⟨k0', g⟩ | ⟨k0', g, g2⟩ <;> (rw [k0'] at z; exact absurd z (by decide))
/-! Rows of the law. -/
abbrev lA (s : State) : Nat → Prop := fun q => s.heap.size ≤ q
/-- the loop's invariant: the show, the reference, both of one state -/
def LI (D : va_G) (cA : Nat → ClassId) (s : State) (σ : AS) (v : VT) (sh : Nat → Option Sh) (ad : Nat → Nat) (M : MS) (H : Heap) (locs : List Loc) : Prop := sh = shL (aN σ) ∧ XX σ v M ∧ MX σ v M ∧ PA sh ad (lA s) s.heap ∧ WS D cA sh ad (lA s) s.heap M H locs
/-- what stands of the machine in the law -/
def LC (p : Program) (l : Launch) (s : State) (m : MethodId) (c : Code) (b L : Nat) (xs : Nat → Int32) (D : va_G) (cA : Nat → ClassId) : Prop :=
  p.tables.exec = Jvm.exec ∧ c.code = code ∧ c.maxLocals = 8 ∧ s.vm.findClass RL = some m.cls ∧ (∀ w ∈ wsL_law, w.before #[Value.ref b] s = true) ∧ va_K D vwCl (wty cA) s ∧ l.stackTraces = false ∧ va_X b L xs s s.heap ∧ b < s.heap.size ∧ L ≤ 2560 ∧ EXs s ∧ EXz (lA s) s s.heap ∧ (va_Nc nIS nIA s ∧ va_Nc nIA nIO s)
section WLL
variable {p : Program} {l : Launch} {e : Env} {R : Room} {s : State} {m : MethodId} {args : Array Value} {below : List Frame} {meth : Method} {c : Code} {H : Heap} {locs : List Loc} {cells slots : Nat} {Q : State → Prop}
variable {cc : ByteArray} {pc : Nat} {ls : Array Slot} {st0 rest : List Value} {D : va_G} {cA : Nat → ClassId} {sh : Nat → Option Sh} {ad : Nat → Nat} {A : Nat → Prop} {H0 : Heap} {M : MS} {a : Array Value} {As : List Value}
theorem lsld (hexec : p.tables.exec = Jvm.exec) (hb : c.code = cc) {b L j : Nat} {xs : Nat → Int32} (hX : va_X b L xs s s.heap) (hbl : b < s.heap.size) (hS : va_S (lA s) s.heap H locs) {i : Int32} (hi : i = nI j) (hj : j < L) (hL : L ≤ 2560) (hdg : decode cc pc = .ok (.iaload, 1))
    (kk : W p l e R s m args below meth c H locs cells slots Q (F0 m (pc + 1) ls (.int (xs j) :: rest))) : W p l e R s m args below meth c H locs cells slots Q (F0 m pc ls (.int i :: .ref b :: rest)) := by
  obtain ⟨h1, h2⟩ := in_nI hi hj (by omega)
  exact va_sld hexec hb hX hbl (Nat.not_le.mpr hbl) hS h1 hdg (by rw [h2]; exact kk)
theorem wc_wiN {post : Int32 → MS → Prop} {mc1 ms1 : Nat} (hr : va_Run p l e R s m args below meth c H locs cells slots mc1 ms1 (F0 m pc ls st0) rest (wQi D cA sh ad post (wA sh ad H.size) a) (wA sh ad H.size)) (hA : PA sh ad A H0) (hW : WS D cA sh ad A H0 M H locs)
    (kk : ∀ (r : Int32) (M' : MS) (H1 : Heap) (locs1 : List Loc), post r M' → WS D cA sh ad A H0 M' H1 locs1 → W p l e R s m args below meth c H1 locs1 (cells + mc1) (slots + ms1) Q (F0 m (pc + 3) ls (.int r :: rest))) : W p l e R s m args below meth c H locs cells slots Q (F0 m pc ls st0) :=
  va_calli hr hW.2 (fun q _ h => wA_in hA hW.2.1 q h) (fun q h => wA_in hA hW.2.1 q h) (fun r u t H1 locs1 ht _ hp hB _ _ hS => kk r u H1 locs1 hp ⟨ht ▸ hB, hS⟩)
theorem wc_lc {post : Int32 → (Nat → Option Sh) → MS → Prop} {mc1 ms1 : Nat} (hr : va_Run p l e R s m args below meth c H locs cells slots mc1 ms1 (F0 m pc ls st0) rest (lQc D cA sh ad H.size post (wA sh ad H.size) a) (wA sh ad H.size)) (hA : PA sh ad A H0) (hW : WS D cA sh ad A H0 M H locs)
    (kk : ∀ (r : Int32) (sh1 : Nat → Option Sh) (ad1 : Nat → Nat) (M' : MS) (H1 : Heap) (locs1 : List Loc), GR sh ad H0.size sh1 ad1 → post r sh1 M' → PA sh1 ad1 A H0 → WS D cA sh1 ad1 A H0 M' H1 locs1 → W p l e R s m args below meth c H1 locs1 (cells + mc1) (slots + ms1) Q (F0 m (pc + 3) ls (.int r :: rest))) : W p l e R s m args below meth c H locs cells slots Q (F0 m pc ls st0) :=
  va_calli hr hW.2 (fun q _ h => wA_in hA hW.2.1 q h) (fun q h => wA_in hA hW.2.1 q h) (fun r u t H1 locs1 ht _ hp hB _ _ hS => by
    have hG : GR sh ad H0.size u.1 u.2.1 := ⟨hp.1.1, fun p h1 h2 => Nat.le_trans hW.2.1 (hp.1.2 p h1 h2)⟩
    exact kk r u.1 u.2.1 u.2.2 H1 locs1 hG hp.2 (hA.gr hG) ⟨ht ▸ hB, hS⟩)
end WLL
