/-! what is checked of every row, and of every method -/
def jmi (mi : Nat) : jMi := (jMs[mi]?).getD (x, ⟨#[]⟩, 0, 99, [], [], 0)
def jftg (c k : Nat) : Nat := (jFt.getD c []).getD k 0
def jlen (i : jI) : Nat := match i with
  | .bipush _ => 2
  | .sipush _ => 3
  | .ldc _ => 2
  | .ldc_w _ => 3
  | .ldc2_w _ => 3
  | .iload _ => 2
  | .lload _ => 2
  | .aload _ => 2
  | .istore _ => 2
  | .lstore _ => 2
  | .astore _ => 2
  | .iinc _ _ => 3
  | .getfield _ => 3
  | .putfield _ => 3
  | .getstatic _ => 3
  | .new _ => 3
  | .newarray _ => 2
  | .anewarray _ => 3
  | .goto _ => 3
  | .ifCond _ _ => 3
  | .if_icmp _ _ => 3
  | .ifnull _ => 3
  | .invokevirtual _ => 3
  | .invokestatic _ => 3
  | .invokespecial _ => 3
  | _ => 1
def jwAt (w : Nat) : Option Jvm.Cond := match w / 1000 with
  | 0 => (k2_sels lw_privs)[w % 1000]?
  | 1 => tables_1_1[w % 1000]?
  | 2 => tables_1_2[w % 1000]?
  | 3 => tables_1_3[w % 1000]?
  | 4 => tables_1_4[w % 1000]?
  | 5 => tables_1_5[w % 1000]?
  | 6 => tables_1_6[w % 1000]?
  | 7 => tables_1_7[w % 1000]?
  | 8 => tables_1_8[w % 1000]?
  | 9 => tables_1_9[w % 1000]?
  | 10 => tables_1_10[w % 1000]?
  | 11 => tables_1_11[w % 1000]?
  | _ => none
def jhas (w : Nat) (c : Jvm.Cond) : Bool := decide (jwAt w = some c)
theorem jwAt_mem {w : Nat} {c : Jvm.Cond} (h : jwAt w = some c) : c ∈ lw_tbl := by
  have key : ∀ {t : List Jvm.Cond} {k : Nat}, t[k]? = some c → c ∈ t := fun h => List.mem_of_getElem? h
  unfold lw_tbl tables_1
  unfold jwAt at h
  split at h
  · exact List.mem_append_left _ (key h)
  all_goals first
    | (have h := key h
       simp only [List.mem_append, h, true_or, or_true])
    | cases h
theorem jhas_mem {w : Nat} {c : Jvm.Cond} (h : jhas w c = true) : c ∈ lw_tbl := jwAt_mem (of_decide_eq_true h)
def jtk (c k t b : Nat) : Bool := match jftg c k with
  | 0 => t == 0 && b == 0
  | 8 => t == 0 && b == 1
  | 1 => t == 1 && b == 0
  | 2 => t == 2 && b == 0
  | 5 => t == 5 && b == 0
  | _ => false
def jty (k : Nat) : FieldType := match k with
  | 20 => .int
  | 21 => .long
  | 22 => .boolean
  | 23 => .char
  | 24 => .object RX9
  | _ => .byte
def jlf (own : String) (idx c k t b w : Nat) : Bool := match vwCl[c]? with
  | some r => jhas w (.fieldLink own idx (r.2.1 k).1 (r.2.1 k).2.1 (r.2.1 k).2.2.1) && decide (k < r.2.2) && jtk c k t b
  | none => false
def jlfin (own : String) (isI : Bool) (c k : Nat) : Bool := match vwCl[c]? with
  | some r => !(r.2.1 k).2.2.2 || (isI && decide ((r.2.1 k).1 = own))
  | none => false
def jlnest (own : String) (idx mi w : Nat) : Bool := match jwAt w with
  | some (.methodLinkNest o i y _) => decide (o = own) && decide (i = idx) && decide (y = (jmi mi).1)
  | _ => false
def jlc (own : String) (op idx : Nat) (info : List Nat) : Bool := match info with
  | [kd, mi, na, w] => if kd = 7 then decide (op = 5) && jhas w (.methodLink own idx Lib.objectInit)
    else if kd = 10 then decide (op = 3) && jhas w (.methodLink own idx arraycopyName)
    else decide (0 < mi) && decide (mi < 373) && decide (na + (if (jmi mi).2.2.2.2.2.2 = 1 then 0 else 1) = (jmi mi).2.2.2.2.1.length) &&
      (if kd = 1 then decide (op = 1) && decide ((jmi mi).2.2.2.2.2.2 = 0) && decide ((jmi mi).1.name ≠ "<init>") && jhas w (.methodLink own idx (jmi mi).1)
      else if kd = 3 then decide (op = 3) && decide ((jmi mi).2.2.2.2.2.2 = 1) && jhas w (.methodLink own idx (jmi mi).1)
      else if kd = 5 then decide (op = 5) && decide ((jmi mi).2.2.2.2.2.2 = 0) && decide ((jmi mi).1.name = "<init>") && decide ((jmi mi).2.2.2.1 = 3) && jhas w (.methodLink own idx (jmi mi).1)
      else if kd = 2 then decide (op = 1) && decide ((jmi mi).2.2.2.2.2.2 = 0) && decide ((jmi mi).1.name ≠ "<init>") && jlnest own idx mi w
      else if kd = 4 then decide (op = 3) && decide ((jmi mi).2.2.2.2.2.2 = 1) && jlnest own idx mi w
      else decide (kd = 6) && decide (op = 5) && decide ((jmi mi).2.2.2.2.2.2 = 0) && decide ((jmi mi).1.name = "<init>") && decide ((jmi mi).2.2.2.1 = 3) && jlnest own idx mi w)
  | _ => true
/-- what a row links, and its own numbers -/
def jlok (own : String) (isI : Bool) (i : jI) (info : List Nat) : Bool := match i with
  | .iconst n => decide (-1 ≤ n) && decide (n ≤ 5)
  | .bipush n => decide (-128 ≤ n) && decide (n < 128)
  | .sipush n => decide (-32768 ≤ n) && decide (n < 32768)
  | .ldc idx => match info with
    | [0, 0, m, w] => jhas w (.constant own idx (Int32.ofInt (m : Int))) && decide (m < 2147483648)
    | [0, 1, m, w] => jhas w (.constant own idx (Int32.ofInt (-(m : Int)))) && decide (m < 2147483648)
    | [4, k, _, w] => decide (10 ≤ k) && decide (k < 40) && (match jwAt w with
      | some (.stringRef o i tx) => decide (o = own) && decide (i = idx) && decide (jStr[k - 10]? = some (tx.toList.map (fun ch => (ch.toNat : Int))))
      | _ => false)
    | _ => false
  | .ldc_w idx => match info with
    | [0, 0, m, w] => jhas w (.constant own idx (Int32.ofInt (m : Int))) && decide (m < 2147483648)
    | [0, 1, m, w] => jhas w (.constant own idx (Int32.ofInt (-(m : Int)))) && decide (m < 2147483648)
    | _ => false
  | .ldc2_w idx => match info with
    | [1, 0, m, w] => jhas w (.constantLong own idx (Int64.ofInt (m : Int))) && decide (m < 9223372036854775808)
    | [1, 1, m, w] => jhas w (.constantLong own idx (Int64.ofInt (-(m : Int)))) && decide (m < 9223372036854775808)
    | _ => false
  | .getfield idx => match info with
    | [c, k, t, b, w] => if c < 13 then jlf own idx c k t b w else jhas w (.fieldLink own idx "java/lang/String" (if k = 0 then "value" else "coder") (if k = 0 then "[B" else "B"))
    | _ => false
  | .putfield idx => match info with
    | [c, k, t, b, w] => decide (c < 13) && jlf own idx c k t b w && jlfin own isI c k
    | _ => false
  | .getstatic idx => match info with
    | [0, _, w] => jhas w (.fieldLinkNest own idx "GroupJournal" "CLOSES_WITHOUT" "[I" "GroupJournal")
    | [1, _, w] => jhas w (.fieldLinkNest own idx "GroupJournal" "TAKES_WITHOUT" "[I" "GroupJournal")
    | [3, _, w] => jhas w (.fieldLink own idx "jdk/internal/util/Preconditions" "SIOOBE_FORMATTER" "Ljava/util/function/BiFunction;")
    | [7, _, w] => jhas w (.fieldLink own idx "java/lang/String" "COMPACT_STRINGS" "Z")
    | _ => false
  | .new idx => match info with
    | [c, w] => decide (c < 13) && (match vwCl[c]? with
      | some r => jhas w (.classLink own idx r.1)
      | none => false)
    | _ => false
  | .newarray ty => match info with
    | [k] => decide (20 ≤ k) && decide (k < 24) && decide (newarray.typeOf ty = jty k)
    | _ => false
  | .anewarray idx => match info with
    | [k, w] => decide (k = 24) && jhas w (.classLink own idx RX9)
    | _ => false
  | .lookupswitch _ ps => (ps.toList.zip (ps.toList.drop 1)).all (fun (a, next) => decide (a.1 < next.1))
  | .invokevirtual idx => jlc own 1 idx info
  | .invokestatic idx => jlc own 3 idx info
  | .invokespecial idx => jlc own 5 idx info
  | _ => true
def jdok (b : ByteArray) (pc : Nat) (i : jI) (n : Nat) : Bool := match decode b pc with
  | .ok (i', n') => decide (i' = i) && decide (n' = n)
  | _ => false
theorem jdok_of {b : ByteArray} {pc n : Nat} {i : jI} (h : jdok b pc i n = true) : decode b pc = .ok (i, n) := by
  unfold jdok at h
  split at h
  · rename_i i' n' e
    rw [Bool.and_eq_true] at h
    rw [e, of_decide_eq_true h.1, of_decide_eq_true h.2]
  · cases h
def jswi (i : jI) : Bool := match i with
  | .tableswitch _ _ _ _ => true
  | .lookupswitch _ _ => true
  | _ => false
/-- a call that is never come to -/
def j99 (i : jI) (info : List Nat) : Bool := match i with
  | .invokestatic _ => decide (info = [99])
  | _ => false
def jtok (pc : Nat) (i : jI) : Bool := match i with
  | .goto off => decide (0 ≤ (pc : Int) + off)
  | .ifCond _ off => decide (0 ≤ (pc : Int) + off)
  | .if_icmp _ off => decide (0 ≤ (pc : Int) + off)
  | .ifnull off => decide (0 ≤ (pc : Int) + off)
  | _ => true
def jrok (mi : Nat) (r : jRow) : Bool := jdok (jmi mi).2.1 r.1 r.2.1 r.2.2.1 && (jswi r.2.1 || decide (r.2.2.1 = jlen r.2.1)) && jtok r.1 r.2.1 && (j99 r.2.1 r.2.2.2 || jlok (jmi mi).1.cls (decide ((jmi mi).1.name = "<init>")) r.2.1 r.2.2.2)
def jret (rc : Nat) : Option FieldType := match rc with
  | 0 => some .int
  | 1 => some .long
  | 5 => some .boolean
  | 6 => some .char
  | 7 => some .byte
  | 9 => some (.object RX9)
  | _ => none
def jmok (mi : Nat) : Bool := match jmi mi with
  | (y, b, n, rc, tags, hs, stt) => jhas (hs.getD 0 0) (.code y b n (jret rc)) && (if stt = 1 then jhas (hs.getD 1 0) (.static y) else jhas (hs.getD 1 0) (.instanceMethod y)) && (decide (stt = 1) || decide (y.name = "<init>") || jhas (hs.getD 2 0) (.selects y.cls y y)) && jhas (hs.getD 3 0) (.initialized y.cls)
    && plainName y.cls && decide (y.cls ≠ "java/lang/invoke/MethodHandle") && decide (y.cls ≠ "java/lang/invoke/VarHandle") && decide ((parseMethodDescriptor y.desc).map (fun d => d.parameters.length) = some (if stt = 1 then tags.length else tags.length - 1)) && decide (stt = 0 ∨ stt = 1) && decide (stt = 1 ∨ 0 < tags.length)
    && decide (rc = 0 ∨ rc = 1 ∨ rc = 3 ∨ rc = 5 ∨ rc = 6 ∨ rc = 7 ∨ rc = 9) && decide (n ≤ 40)
    && (match vwCl[hs.getD 4 99]? with
      | some r => decide (r.1 = y.cls)
      | none => if hs.getD 4 99 = 50 then decide (y.cls = "java/lang/String") else true)
