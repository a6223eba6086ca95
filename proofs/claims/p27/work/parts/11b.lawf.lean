def lb_L_law_222 (fu : Nat) (u_text : TX) (u23195 : TS) (u23197 : TH) (u23700 : (Nat → Int32)) (o23934 : Int32 × TV) (rec : Int32 → Int32 → Int32 → Int32 → Int32 → Int32 → TV → Option ((Bool) ⊕ (Int32 × Int32 × Int32 × Int32 × Int32 × TV))) (v24100 : Int32) (v24101 : Int32) (v24102 : Int32) (v24103 : Int32) (v24104 : Int32) (v24105 : Int32) (u24106 : TV) : Option ((Bool) ⊕ (Int32 × Int32 × Int32 × Int32 × Int32 × TV)) :=
if o23934.1 ≤ v24105 then (
some (Sum.inr (v24100, v24101, v24102, v24103, v24104, u24106))
)
else (
bd (f_X4_sleeper fu u23195 u24106 v24105 ((0 : Int32))) fun (o24110 : Int32 × TV) =>
nm (v24100 + o24110.1) fun (x24111 : Int32) =>
bd (f_X4_sleeper fu u23195 o24110.2 v24105 ((5 : Int32))) fun (o24112 : Int32 × TV) =>
nm (v24101 + o24112.1) fun (x24113 : Int32) =>
bd (f_X4_sleeper fu u23195 o24112.2 v24105 ((8 : Int32))) fun (o24114 : Int32 × TV) =>
nm (v24102 + o24114.1) fun (x24115 : Int32) =>
bd (f_X4_sleeper fu u23195 o24114.2 v24105 ((9 : Int32))) fun (o24116 : Int32 × TV) =>
nm (v24103 + o24116.1) fun (x24117 : Int32) =>
jn (fun (x24122 : Int32) (u24123 : TV) =>
bd (f_X4_sleeper fu u23195 u24123 v24105 ((3 : Int32))) fun (o24188 : Int32 × TV) =>
if o24188.1 < 0 then (
some (Sum.inl false)
)
else (
bd (f_X4_rail fu u23195 o24188.2 v24105 ((0 : Int32))) fun (o24190 : Int32 × TV) =>
bd (f_X4_rail fu u23195 o24190.2 v24105 ((1 : Int32))) fun (o24191 : Int32 × TV) =>
if ¬ o24190.1 = o24191.1 then (
some (Sum.inl false)
)
else (
bd (f_X4_sleeper fu u23195 o24191.2 v24105 ((1 : Int32))) fun (o24193 : Int32 × TV) =>
if (100 : Int32) < o24193.1 then (
some (Sum.inl false)
)
else (
bd (f_X4_sleeper fu u23195 o24193.2 v24105 ((4 : Int32))) fun (o24195 : Int32 × TV) =>
jn (fun (u24199 : TV) =>
jn (fun (x24230 : Int32) (u24231 : TV) =>
bd (f_X4_count fu u23195 u24231 u23197 u_text u23700 ((1 : Int32))) fun (o24239 : Int32 × TV) =>
if o24239.1 < x24230 then (
some (Sum.inl false)
)
else (
nm (-x24230) fun (x24241 : Int32) =>
bd (f_X4_count fu u23195 o24239.2 u23197 u_text u23700 ((1 : Int32))) fun (o24242 : Int32 × TV) =>
if x24241 ≤ o24242.1 then (
nm (v24105 + (1 : Int32)) fun (x24244 : Int32) =>
rec x24111 x24113 x24115 x24117 x24122 x24244 o24242.2
)
else (
some (Sum.inl false)
)
)
) fun K389_24238 =>
if ¬ v24105 = 0 then (
bd (f_X4_rail fu u23195 u24199 v24105 ((0 : Int32))) fun (o24246 : Int32 × TV) =>
nm (v24105 - (1 : Int32)) fun (x24247 : Int32) =>
bd (f_X4_rail fu u23195 o24246.2 x24247 ((0 : Int32))) fun (o24248 : Int32 × TV) =>
nm (o24246.1 - o24248.1) fun (x24249 : Int32) =>
K389_24238 x24249 o24248.2
)
else (
K389_24238 ((0 : Int32)) u24199
)
) fun K363_24224 =>
if ¬ o24195.1 = (1 : Int32) then (
K363_24224 o24195.2
)
else (
bd (f_X4_sleeper fu u23195 o24195.2 v24105 ((5 : Int32))) fun (o24251 : Int32 × TV) =>
if o24251.1 = 0 then (
K363_24224 o24251.2
)
else (
some (Sum.inl false)
)
)
)
)
)
) fun K299_24187 =>
jn (fun (u24121 : TV) =>
K299_24187 ((1 : Int32)) u24121
) fun K294_24253 =>
if ¬ v24104 = 0 then (
K294_24253 o24116.2
)
else (
bd (f_X4_sleeper fu u23195 o24116.2 v24105 ((3 : Int32))) fun (o24255 : Int32 × TV) =>
if ¬ o24255.1 = 0 then (
K299_24187 ((0 : Int32)) o24255.2
)
else (
K294_24253 o24255.2
)
)
)

def lf_L_law_222 (fu : Nat) (u_text : TX) (u23195 : TS) (u23197 : TH) (u23700 : (Nat → Int32)) (o23934 : Int32 × TV) : Nat → Int32 → Int32 → Int32 → Int32 → Int32 → Int32 → TV → Option ((Bool) ⊕ (Int32 × Int32 × Int32 × Int32 × Int32 × TV)) := lq_7 (lb_L_law_222 fu u_text u23195 u23197 u23700 o23934)
def lb_L_law_12 (fu : Nat) (u_text : TX) (L : Nat) (xs : (Nat → Int32)) (rec : Int32 → Int32 → TS → TV → TS → TV → TH → TS → TS → TS → TS → TS → TS → (Nat → Int32) → TS → TS → Option ((Bool) ⊕ (Int32 × TS × TV × TS × TV × TH × TS × TS × TS × TS × TS × TS × (Nat → Int32) × TS × TS))) (v16131 : Int32) (v16132 : Int32) (u16133 : TS) (u16134 : TV) (u16135 : TS) (u16136 : TV) (u16137 : TH) (u16138 : TS) (u16139 : TS) (u16140 : TS) (u16141 : TS) (u16142 : TS) (u16143 : TS) (u16144 : (Nat → Int32)) (u16145 : TS) (u16146 : TS) : Option ((Bool) ⊕ (Int32 × TS × TV × TS × TV × TH × TS × TS × TS × TS × TS × TS × (Nat → Int32) × TS × TS)) :=
if (36 : Int32) ≤ v16132 then (
some (Sum.inr (v16131, u16133, u16134, u16135, u16136, u16137, u16138, u16139, u16140, u16141, u16142, u16143, u16144, u16145, u16146))
)
else (
bd (f_L_cell L xs  v16132) fun (o16150 : Int32) =>
bd (f_L_tale fu u16133 u16134 u16137 u_text u16144 ) fun (o16151 : Int64 × TV) =>
bd (f_L_does fu u16133 o16151.2 u16137 u16138 u16139 u16140 u16141 u16142 u16143 u_text u16144 u16145 u16146 o16150) fun (o16152 : Int32 × TS × TV × TH × TS × TS × TS × TS × TS × TS) =>
jn (fun (x16154 : Int32) =>
jn (fun (u20175 : TV) =>
jn (fun (x22183 : Int32) =>
jn (fun (x23194 : Int32) (u23195 : TS) (u23196 : TV) (u23197 : TH) =>
nm (o16150 >>> ((25 : Int32) &&& 31)) fun (x23685 : Int32) =>
nm (x23685 &&& (3 : Int32)) fun (x23686 : Int32) =>
jn (fun (u23699 : TV) (u23700 : (Nat → Int32)) (u23701 : TS) (u23702 : TS) =>
bd (f_X4_count fu u23195 u23699 u23197 u_text u23700 ((13 : Int32))) fun (o23932 : Int32 × TV) =>
if o23932.1 = x23194 then (
bd (f_X4_count fu u23195 o23932.2 u23197 u_text u23700 ((0 : Int32))) fun (o23934 : Int32 × TV) =>
bd (lf_L_law_222 fu u_text u23195 u23197 u23700 o23934 fu ((0 : Int32)) ((0 : Int32)) ((0 : Int32)) ((0 : Int32)) ((0 : Int32)) ((0 : Int32)) o23934.2) fun (z24108 : (Bool) ⊕ (Int32 × Int32 × Int32 × Int32 × Int32 × TV)) =>
sm z24108 (fun r => some (Sum.inl r)) fun (ex0 : Int32 × Int32 × Int32 × Int32 × Int32 × TV) =>
if ex0.2.2.2.2.1 = 0 then (
some (Sum.inl false)
)
else (
nm ((2 : Int32) * o23934.1) fun (x24258 : Int32) =>
if ¬ ex0.2.1 = x24258 then (
some (Sum.inl false)
)
else (
bd (f_X4_account fu u23195 ((0 : Int32))) fun (o24260 : Int32) =>
if ¬ ex0.2.2.1 = o24260 then (
some (Sum.inl false)
)
else (
bd (f_X4_account fu u23195 ((1 : Int32))) fun (o24262 : Int32) =>
if ¬ ex0.2.2.2.1 = o24262 then (
some (Sum.inl false)
)
else (
bd (f_X4_account fu u23195 ((6 : Int32))) fun (o24264 : Int32) =>
bd (f_X4_account fu u23195 ((1 : Int32))) fun (o24265 : Int32) =>
nm (o24264 + o24265) fun (x24266 : Int32) =>
bd (f_X4_account fu u23195 ((0 : Int32))) fun (o24267 : Int32) =>
nm (x24266 - o24267) fun (x24268 : Int32) =>
if ex0.1 = x24268 then (
bd (f_X4_why fu u23195 ex0.2.2.2.2.2 ((0 : Int32))) fun (o24270 : Int32 × TV) =>
bd (f_X4_count fu u23195 o24270.2 u23197 u_text u23700 ((11 : Int32))) fun (o24271 : Int32 × TV) =>
jn (fun (u24280 : TV) =>
bd (f_X4_trainsUntil fu u23195 u16135 u16136 ((40 : Int32)) ((20 : Int32)) ((1 : Int32))) fun (o24292 : Int32 × TS × TV) =>
bd (f_X4_count fu u23195 u24280 u23197 u_text u23700 ((11 : Int32))) fun (o24293 : Int32 × TV) =>
jn (if o24292.1 ≤ (200 : Int32) then (
nm (v16132 + (1 : Int32)) fun (x24300 : Int32) =>
rec x23194 x24300 u23195 o24293.2 o24292.2.1 o24292.2.2 u23197 o16152.2.2.2.2.1 o16152.2.2.2.2.2.1 o16152.2.2.2.2.2.2.1 o16152.2.2.2.2.2.2.2.1 o16152.2.2.2.2.2.2.2.2.1 o16152.2.2.2.2.2.2.2.2.2 u23700 u23701 u23702
)
else (
some (Sum.inl false)
)
) fun K562_24298 =>
if o24293.1 ≤ 0 then (
K562_24298 
)
else (
if ¬ o24292.1 = 0 then (
some (Sum.inl false)
)
else (
K562_24298 
)
)
) fun K537_24291 =>
if ¬ o24271.1 = 0 then (
bd (f_X4_sleeper fu u23195 o24271.2 o24270.1 ((7 : Int32))) fun (o24304 : Int32 × TV) =>
bd (f_X4_count fu u23195 o24304.2 u23197 u_text u23700 ((11 : Int32))) fun (o24305 : Int32 × TV) =>
if ¬ o24304.1 = o24305.1 then (
some (Sum.inl false)
)
else (
bd (f_X4_why fu u23195 o24305.2 ((1 : Int32))) fun (o24307 : Int32 × TV) =>
bd (f_X4_count fu u23195 o24307.2 u23197 u_text u23700 ((4 : Int32))) fun (o24308 : Int32 × TV) =>
if o24308.1 < o24307.1 then (
K537_24291 o24308.2
)
else (
some (Sum.inl false)
)
)
)
else (
if o24270.1 = (-100009 : Int32) then (
K537_24291 o24271.2
)
else (
some (Sum.inl false)
)
)
)
else (
some (Sum.inl false)
)
)
)
)
)
)
else (
some (Sum.inl false)
)
) fun K185_23931 =>
if ¬ x23686 = (1 : Int32) then (
K185_23931 u23196 u16144 u16145 u16146
)
else (
nm (o16150 >>> ((24 : Int32) &&& 31)) fun (x24312 : Int32) =>
nm (x24312 &&& (1 : Int32)) fun (x24313 : Int32) =>
bd (f_X4_keep fu u23195 u16145 u16146 u16144 x24313) fun (o24314 : Int32 × TS × TS × (Nat → Int32)) =>
bd (f_X4_account fu u23195 ((4 : Int32))) fun (o24315 : Int32) =>
if ¬ o24314.1 = o24315 then (
some (Sum.inl false)
)
else (
bd (f_X4_count fu u23195 u23196 u23197 u_text o24314.2.2.2 ((14 : Int32))) fun (o24317 : Int32 × TV) =>
nm (o16150 >>> ((24 : Int32) &&& 31)) fun (x24318 : Int32) =>
nm (x24318 &&& (1 : Int32)) fun (x24319 : Int32) =>
nm (o24317.1 >>> (x24319 &&& 31)) fun (x24320 : Int32) =>
nm (x24320 &&& (1 : Int32)) fun (x24321 : Int32) =>
if ¬ x24321 = 0 then (
K185_23931 o24317.2 o24314.2.2.2 o24314.2.1 o24314.2.2.1
)
else (
some (Sum.inl false)
)
)
)
) fun K134_23684 =>
if x16154 = 0 then (
K134_23684 x22183 o16152.2.1 u20175 o16152.2.2.2.1
)
else (
nm (o16150 >>> ((27 : Int32) &&& 31)) fun (x24324 : Int32) =>
nm (x24324 &&& (3 : Int32)) fun (x24325 : Int32) =>
if ¬ x24325 = 0 then (
K134_23684 x22183 o16152.2.1 u20175 o16152.2.2.2.1
)
else (
bd (f_X4_undo fu o16152.2.1 o16152.2.2.2.1 o16152.2.2.2.2.1 o16152.2.2.2.2.2.1 o16152.2.2.2.2.2.2.1 o16152.2.2.2.2.2.2.2.1 o16152.2.2.2.2.2.2.2.2.1 o16152.2.2.2.2.2.2.2.2.2 ) fun (o24327 : Int32 × TS × TH) =>
nm (x22183 - (1 : Int32)) fun (x24328 : Int32) =>
if ¬ o24327.1 = x24328 then (
some (Sum.inl false)
)
else (
bd (f_L_tale fu o24327.2.1 u20175 o24327.2.2 u_text u16144 ) fun (o24330 : Int64 × TV) =>
nm (lg_cmp o24330.1 o16151.1) fun (x24331 : Int32) =>
if x24331 = 0 then (
nm (x22183 + (-1 : Int32)) fun (x24333 : Int32) =>
K134_23684 x24333 o24327.2.1 o24330.2 o24327.2.2
)
else (
some (Sum.inl false)
)
)
)
)
) fun K93_23182 =>
if ¬ x16154 = 0 then (
if (6 : Int32) ≤ v16131 then (
K93_23182 ((6 : Int32))
)
else (
nm (v16131 + (1 : Int32)) fun (x24336 : Int32) =>
K93_23182 x24336
)
)
else (
K93_23182 v16131
)
) fun K70_22179 =>
if ¬ x16154 = 0 then (
K70_22179 o16152.2.2.1
)
else (
bd (f_L_tale fu o16152.2.1 o16152.2.2.1 o16152.2.2.2.1 u_text u16144 ) fun (o24338 : Int64 × TV) =>
nm (lg_cmp o24338.1 o16151.1) fun (x24339 : Int32) =>
if x24339 = 0 then (
K70_22179 o24338.2
)
else (
some (Sum.inl false)
)
)
) fun K51_20170 =>
if o16152.1 ≤ (-50000 : Int32) then (
K51_20170 ((0 : Int32))
)
else (
K51_20170 ((1 : Int32))
)
)

def lf_L_law_12 (fu : Nat) (u_text : TX) (L : Nat) (xs : (Nat → Int32)) : Nat → Int32 → Int32 → TS → TV → TS → TV → TH → TS → TS → TS → TS → TS → TS → (Nat → Int32) → TS → TS → Option ((Bool) ⊕ (Int32 × TS × TV × TS × TV × TH × TS × TS × TS × TS × TS × TS × (Nat → Int32) × TS × TS)) := lq_16 (lb_L_law_12 fu u_text L xs)
def f_L_law (fu : Nat) (L : Nat) (xs : Nat → Int32) (u_now : TS) (u_survey : TV) (u_trial : TS) (u_trialSurvey : TV) (u_history : TH) (u_history_r0 : TS) (u_history_r1 : TS) (u_history_r2 : TS) (u_history_r3 : TS) (u_history_r4 : TS) (u_history_r5 : TS) (u_text : TX) (u_kept : (Nat → Int32)) (u_images_r0 : TS) (u_images_r1 : TS) : Option Bool :=
bd (lf_L_law_12 fu u_text L xs fu ((0 : Int32)) ((0 : Int32)) u_now u_survey u_trial u_trialSurvey u_history u_history_r0 u_history_r1 u_history_r2 u_history_r3 u_history_r4 u_history_r5 u_kept u_images_r0 u_images_r1) fun (z16148 : (Bool) ⊕ (Int32 × TS × TV × TS × TV × TH × TS × TS × TS × TS × TS × TS × (Nat → Int32) × TS × TS)) =>
sm z16148 (fun r => some r) fun (ex0 : Int32 × TS × TV × TS × TV × TH × TS × TS × TS × TS × TS × TS × (Nat → Int32) × TS × TS) =>
bd (f_X4_undo fu ex0.2.1 ex0.2.2.2.2.2.1 ex0.2.2.2.2.2.2.1 ex0.2.2.2.2.2.2.2.1 ex0.2.2.2.2.2.2.2.2.1 ex0.2.2.2.2.2.2.2.2.2.1 ex0.2.2.2.2.2.2.2.2.2.2.1 ex0.2.2.2.2.2.2.2.2.2.2.2.1 ) fun (o24342 : Int32 × TS × TH) =>
if ¬ ex0.1 = 0 then (
nm (ex0.1 - (1 : Int32)) fun (x24344 : Int32) =>
if ¬ o24342.1 = x24344 then (
some false
)
else (
some true
)
)
else (
if ¬ o24342.1 = (-100002 : Int32) then (
some false
)
else (
some true
)
)

