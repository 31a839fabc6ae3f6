/-! CONTRACTS: a method keeps a spec (Val); calls by contract -/
def lkB : List (Nat × List It) → Nat → List It
  | [], _ => []
  | (j, l) :: r, i => if j = i then l else lkB r i
def ckB (rs : Rs) (ini : Bool) (on nL : Nat) (code : ByteArray) (bl : List (Nat × List It)) : Bool := bl.all fun x => ckL rs ini on nL code x.1 x.2
theorem ckB_at {rs : Rs} {ini : Bool} {on nL : Nat} {code : ByteArray} {bl : List (Nat × List It)} (h : ckB rs ini on nL code bl = true) (pc : Nat) : ckL rs ini on nL code pc (lkB bl pc) = true := by
  induction bl with
  | nil => rfl
  | cons x r ih =>
    obtain ⟨j, l⟩ := x
    unfold ckB at h
    rw [List.all_cons, Bool.and_eq_true] at h
    unfold lkB
    by_cases e : j = pc
    · rw [if_pos e, ← e]; exact h.1
    · rw [if_neg e]; exact ih h.2
def Sg (g : GP) (h : hp) (U : State) : Prop := hS g h U.heap ∧ KK g U
def QmV (g : GP) (Q : Kt) : Array Value → State → Outcome → State → Prop := fun _ _ o t => ∃ v h', o = .returned v ∧ Q v h' ∧ Sg g h' t
def Val (g : GP) (y : MethodName) (code : ByteArray) (maxL : Nat) (ret : Option FieldType) (fr lo mc ms : Nat) (sp : Spec) : Prop :=
  ∀ (args : List Value) (h : hp) (Q : Kt), sp args h Q → Met (gL g) y (Jvm.Cond.code y code maxL ret :: tbG) { frames := fr, cells := mc, slots := ms, locals := lo } (va_Pc args (fun U => Sg g h U)) (QmV g Q) mc ms (fun q => gB g ≤ q)
def rtOK (rt : Nat) (ret : Option FieldType) : Prop := match rt with
  | 0 => ret = none
  | 1 => ret = some .int
  | 2 => ret = some .boolean
  | 3 => ret = some .long
  | 4 => ∃ C, ret = some (.object C)
  | _ => False
/-- Pf, with the words that the arguments take -/
def PfM (cl : Nat → Nat × Nat × Spec) (bd : Nat × Nat) (rt nL : Nat) (blk : List (Nat × List It)) (sp : Spec) : Prop :=
  ∀ (args : List Value) (h : hp) (Q : Kt), sp args h Q → (lg_sl args).length ≤ nL ∧ ∀ G : Gt, Good cl bd rt Q (lkB blk) G → G 0 (lv_args 0 args) [] h (0, 0)
def CaOK (g : GP) (own : String) (fr lo : Nat) (x : Nat × Nat × Nat × Nat × Nat) (sp : Nat × Nat × Spec) : Prop :=
  ∀ (p : Program) (e : Env) (R : Room) (s : State) (m : MethodId) (args : Array Value) (below : List Frame) (meth : Method) (c : Code) (nL : Nat) (Q' : State → Prop) (code : ByteArray), p.tables.exec = Jvm.exec → c.code = code → c.maxLocals = nL → s.vm.findClass own = some m.cls → (∀ w ∈ tbG, w.before args s = true) → KK g s → fr ≤ R.frames → lo ≤ R.locals →
    CaW g p e R s m args below meth c nL Q' code x.1 x.2.1 x.2.2.1 x.2.2.2.2 sp
theorem Sg.blind {g : GP} {h : hp} {as : List Value} : FrameBlind (va_Pc as (fun U => Sg g h U)) := by
  intro a U f mk q
  exact ⟨q.1, q.2.1, q.2.2.same rfl⟩
theorem tbG_good {y : MethodName} {code : ByteArray} {maxL : Nat} {ret : Option FieldType} (hc : Jvm.Cond.code y code maxL ret ∈ tbG) : GoodIn tbG (Jvm.Cond.code y code maxL ret :: tbG) := by
  intro w hw
  have hm : w ∈ tbG := by
    rcases List.mem_cons.mp hw with rfl | hw
    · exact hc
    · exact hw
  exact ⟨hm, good_of_word (List.mem_filter.mp hm).2⟩
theorem GG_good {g : GP} {p : Program} {e : Env} {R : Room} {s : State} {m : MethodId} {args : Array Value} {below : List Frame} {meth : Method} {c : Code} {nL : Nat} {Q' : State → Prop} {code : ByteArray} {own : String}
    {ini : Bool} {on : Nat} {bd : Nat × Nat} {rs : Rs} {cl : Nat → Nat × Nat × Spec} {rt : Nat} {Q : Kt} {bl : List (Nat × List It)} (X : Cx g p R s m args meth c nL code own ini on bd) (hrs : RsOK own rs) (hck : ckB rs ini on nL code bl = true)
    (hcall : ∀ x ∈ rs.2.2.2.2.2, CaW g p e R s m args below meth c nL Q' code x.1 x.2.1 x.2.2.1 x.2.2.2.2 (cl x.2.2.2.1)) (hret : RetW g p e R s m args below meth c Q' code rt bd Q) : Good cl bd rt Q (lkB bl) (GG g p e R s m args below meth c nL Q') :=
  ⟨fun pc L S h u hw => wpL_ok X hrs hcall hret _ pc L S h u (ckB_at hck pc) hw, fun pc L L' S h u hsub hw H ls locs hh hlo hl => hw H ls locs hh hlo ⟨hl.1, hl.2.1, fun q hq => hl.2.2 q (hsub q hq)⟩⟩
theorem Met_ofF {l : Launch} {y : MethodName} {ws ws' : List Jvm.Cond} {rm : Room} {Pc : Array Value → State → Prop} {Qc : Array Value → State → Outcome → State → Prop} {mc ms : Nat} {free : Addr → Prop} {cc : ByteArray} {maxL : Nat} {ret : Option FieldType}
    (hy : plainFor y = true) (hw : ws = Jvm.Cond.code y cc maxL ret :: ws')
    (body : ∀ p e s m args below meth c s₁, BodyLoose p l y (headSpec ws rm) cc maxL ret e s m args below meth c s₁ → c.maxLocals = maxL → Pc args s →
      W p l e (headSpec ws rm).room s m args below meth c s.heap [] 0 0 (MQ below Qc args s mc ms free) (entryFrame m args maxL)) : Met l y ws rm Pc Qc mc ms free := by
  refine MetFree.of_bodySF (code := cc) (maxLocals := maxL) (ret := ret) hy ?_ ?_
  · intro args s m h hn
    obtain ⟨meth, c, h1, h2, h3, h4, h5, h6, -, -⟩ := Cond.code_spec hn (atoms_spec (ws := ws) h _ (by rw [hw]; exact List.mem_cons_self))
    exact ⟨meth, c, h1, h2, h3, h4, h5, h6⟩
  · intro p e s m args below meth c s₁ B hml hP _
    have hh0 : s₁.heap = s.heap := by rw [B.state]; rfl
    obtain ⟨t, a1, o, b1, b2, b3⟩ := body p e s m args below meth c s₁ B hml hP s₁ hh0 (Stand.of_body B)
    exact ⟨t, o, a1, b1, b2, ⟨b3.1, b3.2⟩⟩
theorem val_of {g : GP} {y : MethodName} {code : ByteArray} {maxL : Nat} {ret : Option FieldType} {fr lo mc ms : Nat} {sp : Spec} {own : String} {ini : Bool} {on : Nat} {rs : Rs} {cl : Nat → Nat × Nat × Spec} {rt : Nat} {bl : List (Nat × List It)}
    (hy : plainFor y = true) (hown : y.cls = own) (hrs : RsOK own rs) (hck : ckB rs ini on maxL code bl = true) (hini : ini = true → y.name = "<init>" ∧ own = RC on) (hrt : rtOK rt ret)
    (hcall : ∀ x ∈ rs.2.2.2.2.2, CaOK g own fr lo x (cl x.2.2.2.1)) (hpf : PfM cl (mc, ms) rt maxL bl sp) : Val g y code maxL ret fr lo mc ms sp := by
  intro as h Q hsp
  obtain ⟨hsl, hgo⟩ := hpf as h Q hsp
  refine Met_ofF (cc := code) (maxL := maxL) (ret := ret) hy rfl ?_
  intro p e s m args below meth c s₁ B hml hv
  obtain ⟨rfl, hs, hK⟩ := hv
  have hts0 := atoms_spec (ws := Jvm.Cond.code y code maxL ret :: tbG) B.pre
  have hts : ∀ w ∈ tbG, w.before as.toArray s = true := fun w hw => hts0 w (List.mem_cons_of_mem _ hw)
  have hfc : s.vm.findClass own = some m.cls := by rw [← hown]; exact findClass_of_methodNamed B.named
  have X : Cx g p (headSpec (Jvm.Cond.code y code maxL ret :: tbG) { frames := fr, cells := mc, slots := ms, locals := lo }).room s m as.toArray meth c maxL code own ini on (mc, ms) :=
    ⟨B.exec, B.bytes, hml, hfc, hts, hK, fun hi => ⟨(name_of_methodNamed B.named B.method).1.trans (hini hi).1, (hini hi).2⟩, B.notSynchronized, rfl, rfl⟩
  have hr := B.returns
  have hret : RetW g p e (headSpec (Jvm.Cond.code y code maxL ret :: tbG) { frames := fr, cells := mc, slots := ms, locals := lo }).room s m as.toArray below meth c (MQ below (QmV g Q) as.toArray s mc ms (fun q => gB g ≤ q)) code rt (mc, ms) Q := by
    intro pc ls H locs u v i h' hd hrm b1 b2 hq hh hlo
    refine W.widen (k := mc) (n := ms) b1 b2 ?_
    have hQ : ∀ t : State, t.heap = H → s.WarmedH t.vm → QmV g Q as.toArray s (.returned v) t := fun t ht hW => ⟨v, h', rfl, hq, by rw [ht]; exact hh, hK.warm hW⟩
    rcases hrm with ⟨rfl, x, rfl, h3⟩ | ⟨rfl, rfl, x, rfl⟩ | ⟨rfl, rfl, h3⟩ | ⟨rfl, rfl, rfl⟩
    · rcases h3 with rfl | ⟨rfl, h3⟩
      · exact W.iret B.exec B.bytes (hr.trans hrt) hQ hlo hd B.notSynchronized
      · exact W.zret B.exec B.bytes (hr.trans hrt) (by rcases h3 with rfl | rfl <;> decide) hQ hlo hd B.notSynchronized
    · exact W.lret B.exec B.bytes (hr.trans hrt) hQ hlo hd B.notSynchronized
    · obtain ⟨C, hC⟩ := hrt
      rcases h3 with ⟨a, rfl⟩ | rfl
      · exact W.aret B.exec B.bytes (hr.trans hC) (Or.inl ⟨C, rfl⟩) (Or.inr ⟨a, rfl⟩) hQ hlo hd B.notSynchronized
      · exact W.aret B.exec B.bytes (hr.trans hC) (Or.inl ⟨C, rfl⟩) (Or.inl rfl) hQ hlo hd B.notSynchronized
    · exact W.vret B.exec B.bytes (hr.trans hrt) hQ hlo hd B.notSynchronized
  have hG := GG_good (e := e) (below := below) X hrs hck (fun x hx => hcall x hx p e _ s m _ below meth c maxL _ code B.exec B.bytes hml hfc hts hK (Nat.le_refl _) (Nat.le_refl _)) hret
  have hgo := hgo _ hG
  rw [lg_entry_eq]
  exact hgo s.heap _ [] hs (fun q hq => by cases hq) (lv_entry as hsl)
theorem cat_le {rest : List Value} (h : rest.length ≤ 4 ∨ cw8 rest) : (rest.map fun v => v.category).sum ≤ 8 := by
  rcases h with h | h
  case inr => exact h
  have key : ∀ l : List Value, (l.map fun v => v.category).sum ≤ 2 * l.length := by
    intro l
    induction l with
    | nil => simp
    | cons v r ih =>
      have := lv_cat v
      simp only [List.map_cons, List.sum_cons, List.length_cons]
      omega
  have := key rest
  omega
/-- behind a call -/
theorem run_GG {g : GP} {p : Program} {e : Env} {R : Room} {s : State} {m : MethodId} {args : Array Value} {below : List Frame} {meth : Method} {c : Code} {nL : Nat} {Q' : State → Prop} {H : Heap} {locs : List Loc} {u : Nat × Nat} {mc ms pc : Nat} {ls : Array Slot} {L : Lc} {st rest : List Value} {a : Array Value} {K : Kt}
    (hr : va_Run p (gL g) e R s m args below meth c H locs u.1 u.2 mc ms (F0 m pc ls st) rest (QmV g K a) (fun q => gB g ≤ q)) (hlo : ∀ q ∈ locs, gB g ≤ q.base) (hl : lv_has ls nL L)
    (kk : ∀ v h', K v h' → GG g p e R s m args below meth c nL Q' (pc + 3) L (v.toList ++ rest) h' (u.1 + mc, u.2 + ms)) : W p (gL g) e R s m args below meth c H locs u.1 u.2 Q' (F0 m pc ls st) := by
  intro T hT' X
  obtain ⟨v, st₀, t, T', L', h0, X', hL, e1, e2, ⟨v', h', hv, hk, hs, hK⟩, stp⟩ := hr T hT' X
  cases hv
  obtain ⟨t2, a1, b1⟩ := kk v h' hk T'.heap ls (locs ++ L') (by rw [e1]; exact hs) (fun q hq => by
    rcases List.mem_append.mp hq with z | z
    · exact hlo q z
    · exact hL q z) hl T' rfl X'
  exact ⟨t2, stp t2 a1, b1⟩
theorem caV {g : GP} {own : String} {fr lo : Nat} {i n q rc : Nat} {y : MethodName} {bytes : ByteArray} {maxL : Nat} {ret : Option FieldType} {fr' lo' mc ms : Nat} {sp : Spec} (hv : Val g y bytes maxL ret fr' lo' mc ms sp) (h1 : Jvm.Cond.methodLink own i y ∈ tbG) (h2 : Jvm.Cond.instanceMethod y ∈ tbG) (h3 : Jvm.Cond.selects y.cls y y ∈ tbG) (h4 : Jvm.Cond.code y bytes maxL ret ∈ tbG) (h5 : Jvm.Cond.initialized y.cls ∈ tbG)
    (hd : y.cls ≠ "java/lang/invoke/MethodHandle" ∧ y.cls ≠ "java/lang/invoke/VarHandle" ∧ (parseMethodDescriptor y.desc).map (fun d => d.parameters.length) = some n) (hrc : y.cls = RC rc ∧ rc < 13) (hR : fr' + 1 ≤ fr ∧ 8 + (maxL + 11) + lo' ≤ lo) : CaOK g own fr lo (0, i, n, q, rc) (mc, ms, sp) := by
  intro p e R s m args below meth c nL Q' code hx hb hml hown hts hK hfr hlo' pc L as rest h u K hdc hlen hr4 b1 b2 hrec _ hsp kk
  obtain ⟨b, t, rfl, ho⟩ := hrec rfl
  intro H ls locs hh hlo hl
  have hn : t.length = n := by simpa using hlen
  obtain ⟨N, hN⟩ := ho
  rcases hh.1 b rc N hN with ⟨-, -, -, cellB, g1, g2, g3, -⟩ | ⟨z, -⟩ | ⟨z, -⟩
  · have hcls := (hK.1.1 rc _ (vwC_at hrc.2)).2.1
    have hM := hv (.ref b :: t) h K hsp
    have cw : CallW R s args own y.cls i y bytes maxL ret (Jvm.Cond.code y bytes maxL ret :: tbG) { frames := fr', cells := mc, slots := ms, locals := lo' } mc ms n :=
      ⟨callB_of n hts (tbG_good h4) rfl rfl rfl (hts _ h5) (hts _ h1) hd ⟨Nat.le_trans hR.1 hfr, Nat.le_trans hR.2 hlo'⟩, hts _ h2, hts _ h3⟩
    refine run_GG (va_runV (Ts := tbG) (As := t) (rest := rest) (b := b) (g := F0 m pc ls ((Value.ref b :: t).reverse ++ rest)) ⟨hx, hb, hml, hown, hts⟩ hM cw ⟨Sg.blind, ⟨cellB, g1, by rw [g3]; rfl, by rw [g2, hrc.1]; exact hcls⟩, fun U hU hW => ⟨rfl, by rw [hU]; exact hh, hK.warm hW⟩⟩ rfl hn hl.1 (by simp) (lv_room (cat_le hr4)) hdc ⟨b1, b2⟩) hlo hl kk
  · omega
  · rw [ak_13 hrc.2] at z; omega
theorem caS {g : GP} {own : String} {fr lo : Nat} {i n q rc : Nat} {y : MethodName} {bytes : ByteArray} {maxL : Nat} {ret : Option FieldType} {fr' lo' mc ms : Nat} {sp : Spec} (hv : Val g y bytes maxL ret fr' lo' mc ms sp) (h1 : Jvm.Cond.methodLink own i y ∈ tbG) (h2 : Jvm.Cond.static y ∈ tbG) (h4 : Jvm.Cond.code y bytes maxL ret ∈ tbG) (h5 : Jvm.Cond.initialized y.cls ∈ tbG)
    (hd : y.cls ≠ "java/lang/invoke/MethodHandle" ∧ y.cls ≠ "java/lang/invoke/VarHandle" ∧ (parseMethodDescriptor y.desc).map (fun d => d.parameters.length) = some n) (hR : fr' + 1 ≤ fr ∧ 8 + (maxL + 11) + lo' ≤ lo) : CaOK g own fr lo (1, i, n, q, rc) (mc, ms, sp) := by
  intro p e R s m args below meth c nL Q' code hx hb hml hown hts hK hfr hlo' pc L as rest h u K hdc hlen hr4 b1 b2 _ _ hsp kk
  intro H ls locs hh hlo hl
  have hn : as.length = n := by simpa using hlen
  have hM := hv as h K hsp
  refine run_GG (va_runS (Ts := tbG) (As := as) (rest := rest) (g := F0 m pc ls (as.reverse ++ rest)) ⟨hx, hb, hml, hown, hts⟩ hM ⟨callB_of n hts (tbG_good h4) rfl rfl rfl (hts _ h5) (hts _ h1) hd ⟨Nat.le_trans hR.1 hfr, Nat.le_trans hR.2 hlo'⟩, hts _ h2⟩ ⟨Sg.blind, fun U hU hW => ⟨rfl, by rw [hU]; exact hh, hK.warm hW⟩⟩ rfl hn hl.1 rfl (lv_room (cat_le hr4)) hdc ⟨b1, b2⟩) hlo hl kk
theorem caI {g : GP} {own : String} {fr lo : Nat} {i n q rc : Nat} {y : MethodName} {bytes : ByteArray} {maxL : Nat} {fr' lo' mc ms : Nat} {sp : Spec} (hv : Val g y bytes maxL none fr' lo' mc ms sp) (h1 : Jvm.Cond.methodLink own i y ∈ tbG) (h2 : Jvm.Cond.instanceMethod y ∈ tbG) (h4 : Jvm.Cond.code y bytes maxL none ∈ tbG) (h5 : Jvm.Cond.initialized y.cls ∈ tbG)
    (hd : y.cls ≠ "java/lang/invoke/MethodHandle" ∧ y.cls ≠ "java/lang/invoke/VarHandle" ∧ (parseMethodDescriptor y.desc).map (fun d => d.parameters.length) = some n) (hnm : y.name = "<init>") (hR : fr' + 1 ≤ fr ∧ 8 + (maxL + 11) + lo' ≤ lo) : CaOK g own fr lo (2, i, n, q, rc) (mc, ms, sp) := by
  intro p e R s m args below meth c nL Q' code hx hb hml hown hts hK hfr hlo' pc L as rest h u K hdc hlen hr4 b1 b2 _ hrec hsp kk
  obtain ⟨b, t, rfl⟩ := hrec rfl
  intro H ls locs hh hlo hl
  have hn : t.length = n := by simpa using hlen
  have hM := hv (.ref b :: t) h K hsp
  refine run_GG (va_runI (Ts := tbG) (As := t) (b := b) (rest := rest) (g := F0 m pc ls ((Value.ref b :: t).reverse ++ rest)) ⟨hx, hb, hml, hown, hts⟩ hM ⟨callB_of n hts (tbG_good h4) rfl rfl rfl (hts _ h5) (hts _ h1) hd ⟨Nat.le_trans hR.1 hfr, Nat.le_trans hR.2 hlo'⟩, hnm, hts _ h2⟩ ⟨Sg.blind, fun U hU hW => ⟨rfl, by rw [hU]; exact hh, hK.warm hW⟩⟩ rfl hn hl.1 (by simp) (lv_room (cat_le hr4)) hdc ⟨b1, b2⟩) hlo hl kk
theorem caN {g : GP} {own : String} {fr lo : Nat} {i n q rc : Nat} {y : MethodName} {bytes : ByteArray} {maxL : Nat} {fr' lo' mc ms : Nat} {sp : Spec} (hv : Val g y bytes maxL none fr' lo' mc ms sp) (h1 : (own, i, y) ∈ nsL) (h2 : Jvm.Cond.instanceMethod y ∈ tbG) (h4 : Jvm.Cond.code y bytes maxL none ∈ tbG) (h5 : Jvm.Cond.initialized y.cls ∈ tbG)
    (hd : y.cls ≠ "java/lang/invoke/MethodHandle" ∧ y.cls ≠ "java/lang/invoke/VarHandle" ∧ (parseMethodDescriptor y.desc).map (fun d => d.parameters.length) = some n) (hnm : y.name = "<init>") (hR : fr' + 1 ≤ fr ∧ 8 + (maxL + 11) + lo' ≤ lo) : CaOK g own fr lo (2, i, n, q, rc) (mc, ms, sp) := by
  intro p e R s m args below meth c nL Q' code hx hb hml hown hts hK hfr hlo' pc L as rest h u K hdc hlen hr4 b1 b2 _ hrec hsp kk
  obtain ⟨b, t, rfl⟩ := hrec rfl
  intro H ls locs hh hlo hl
  have hn : t.length = n := by simpa using hlen
  have hM := hv (.ref b :: t) h K hsp
  refine run_GG (va_runIN (Ts := tbG) (host := "PieceMirror") (As := t) (b := b) (rest := rest) (g := F0 m pc ls ((Value.ref b :: t).reverse ++ rest)) ⟨hx, hb, hml, hown, hts⟩ hM ⟨va_cnB n hts (tbG_good h4) rfl rfl rfl (hK.2.2.2.1 _ h1) (hts _ h5) hd ⟨Nat.le_trans hR.1 hfr, Nat.le_trans hR.2 hlo'⟩, hnm, hts _ h2⟩ ⟨Sg.blind, fun U hU hW => ⟨rfl, by rw [hU]; exact hh, hK.warm hW⟩⟩ rfl hn hl.1 (by simp) (lv_room (cat_le hr4)) hdc ⟨b1, b2⟩) hlo hl kk
/-- Object.<init> -/
def sp_obj : Spec := fun as h K => ∃ a, as = [.ref a] ∧ K none h
theorem caO {g : GP} {own : String} {fr lo : Nat} {i q rc : Nat} (h1 : Jvm.Cond.methodLink own i Lib.objectInit ∈ tbG) (h2 : Jvm.Cond.instanceMethod Lib.objectInit ∈ tbG) (h4 : Jvm.Cond.code Lib.objectInit ⟨#[0xb1]⟩ 1 none ∈ tbG) (hR : 1 ≤ fr ∧ 20 ≤ lo) : CaOK g own fr lo (2, i, 0, q, rc) (0, 0, sp_obj) := by
  intro p e R s m args below meth c nL Q' code hx hb hml hown hts hK hfr hlo' pc L as rest h u K hdc hlen hr4 b1 b2 _ _ hsp kk
  obtain ⟨a, rfl, hk⟩ := hsp
  intro H ls locs hh hlo hl
  refine W.objInit hx hb hown (hts _ h1) (hts _ h2) (hts _ h4) (g := F0 m pc ls ([Value.ref a].reverse ++ rest)) rfl (hl.1.trans hml.symm) rfl hdc (Nat.le_trans hR.1 hfr) ?_ ?_
  · have := cat_le hr4
    show 2 * 0 + (rest.map fun v => v.category).sum + 12 ≤ _
    omega
  · exact kk none h hk H ls locs hh hlo hl
