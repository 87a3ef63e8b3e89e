set_option maxRecDepth 100000 in
theorem ck240 : chkT 240 = true := by decide +kernel
set_option maxRecDepth 100000 in
theorem ck241 : chkT 241 = true := by decide +kernel
set_option maxRecDepth 100000 in
theorem ck242 : chkT 242 = true := by decide +kernel
set_option maxRecDepth 100000 in
theorem ck243 : chkT 243 = true := by decide +kernel
set_option maxRecDepth 100000 in
theorem ck244 : chkT 244 = true := by decide +kernel
set_option maxRecDepth 100000 in
theorem ck245 : chkT 245 = true := by decide +kernel
set_option maxRecDepth 100000 in
theorem ck246 : chkT 246 = true := by decide +kernel
set_option maxRecDepth 100000 in
theorem ck247 : chkT 247 = true := by decide +kernel
set_option maxRecDepth 100000 in
theorem ck248 : chkT 248 = true := by decide +kernel
set_option maxRecDepth 100000 in
theorem ck249 : chkT 249 = true := by decide +kernel
set_option maxRecDepth 100000 in
theorem ck250 : chkT 250 = true := by decide +kernel
set_option maxRecDepth 100000 in
theorem ck251 : chkT 251 = true := by decide +kernel
set_option maxRecDepth 100000 in
theorem ck252 : chkT 252 = true := by decide +kernel
set_option maxRecDepth 100000 in
theorem ck253 : chkT 253 = true := by decide +kernel
set_option maxRecDepth 100000 in
theorem ck254 : chkT 254 = true := by decide +kernel
set_option maxRecDepth 100000 in
theorem ck255 : chkT 255 = true := by decide +kernel
set_option maxRecDepth 100000 in
theorem ck256 : chkT 256 = true := by decide +kernel
set_option maxRecDepth 100000 in
theorem ck257 : chkT 257 = true := by decide +kernel
set_option maxRecDepth 100000 in
theorem ck258 : chkT 258 = true := by decide +kernel
set_option maxRecDepth 100000 in
theorem ck259 : chkT 259 = true := by decide +kernel
set_option maxRecDepth 100000 in
theorem ck260 : chkT 260 = true := by decide +kernel
set_option maxRecDepth 100000 in
theorem ck261 : chkT 261 = true := by decide +kernel
set_option maxRecDepth 100000 in
theorem ck262 : chkT 262 = true := by decide +kernel
set_option maxRecDepth 100000 in
theorem ck263 : chkT 263 = true := by decide +kernel
set_option maxRecDepth 100000 in
theorem ck264 : chkT 264 = true := by decide +kernel
set_option maxRecDepth 100000 in
theorem ck265 : chkT 265 = true := by decide +kernel
set_option maxRecDepth 100000 in
theorem ck266 : chkT 266 = true := by decide +kernel
set_option maxRecDepth 100000 in
theorem ck267 : chkT 267 = true := by decide +kernel
set_option maxRecDepth 100000 in
theorem ck268 : chkT 268 = true := by decide +kernel
set_option maxRecDepth 100000 in
theorem ck269 : chkT 269 = true := by decide +kernel
set_option maxRecDepth 100000 in
theorem ck270 : chkT 270 = true := by decide +kernel
set_option maxRecDepth 100000 in
theorem ck271 : chkT 271 = true := by decide +kernel
set_option maxRecDepth 100000 in
theorem ck272 : chkT 272 = true := by decide +kernel
set_option maxRecDepth 100000 in
theorem ck273 : chkT 273 = true := by decide +kernel
set_option maxRecDepth 100000 in
theorem ck274 : chkT 274 = true := by decide +kernel
set_option maxRecDepth 100000 in
theorem ck275 : chkT 275 = true := by decide +kernel
set_option maxRecDepth 100000 in
theorem ck276 : chkT 276 = true := by decide +kernel
set_option maxRecDepth 100000 in
theorem ck277 : chkT 277 = true := by decide +kernel
set_option maxRecDepth 100000 in
theorem ck278 : chkT 278 = true := by decide +kernel
set_option maxRecDepth 100000 in
theorem ck279 : chkT 279 = true := by decide +kernel
set_option maxRecDepth 100000 in
theorem ck280 : chkT 280 = true := by decide +kernel
